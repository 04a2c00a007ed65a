/** Promise 7: verdict. */
public final class VerdictTest {
    private static final Check check = new Check();

    public static void main(String[] args) {
        refusals();
        exactlyAtMost();
        atTheFirstTrust();
        atTheEndsOfTrust();
        allDrawn();
        twentiethIsCut();
        followsWhatIsWrong();
        againstTheExactChances();
        check.end();
    }

    // "UNKNOWN, STATE (not sampled)"
    private static void refusals() {
        BulkSamples x = new BulkSamples();
        x.mailing(10);
        check.same("unknown", x.verdict(0), BulkSamples.UNKNOWN);
        check.same("unknown", x.verdict(2), BulkSamples.UNKNOWN);
        check.same("unknown", x.verdict(Integer.MAX_VALUE), BulkSamples.UNKNOWN);
        check.same("not sampled", x.verdict(1), BulkSamples.STATE);
        check.same("a sample is refused", x.sample(1, 10), BulkSamples.ROOM);
        check.same("not sampled still", x.verdict(1), BulkSamples.STATE);
        Check.fillTape(x, 10);
        x.sample(1, 10);
        check.same("sampled", x.verdict(1), 1);
    }

    // "is at most 1000 - t in 1000"
    private static void exactlyAtMost() {
        // One of 2 drawn, L + 1 = 1: the chance of none wrong is 1 in 2.
        BulkSamples x = Check.sampled(2, 1);
        x.bound(500);
        check.same("1 in 2 is at most 500 in 1000", x.verdict(1), 1);
        x.bound(501);
        check.same("1 in 2 is more than 499 in 1000", x.verdict(1), 2);
        // 10 of 20 drawn, L = 1: the chance of 1 or more is 1 in 2.
        BulkSamples y = Check.sampled(20, 10);
        y.wrong(1, 0, 1);
        y.bound(500);
        check.same("1 in 2 is at most 500 in 1000", y.verdict(1), 3);
        y.bound(501);
        check.same("1 in 2 is more than 499 in 1000", y.verdict(1), 2);
        // 19 of 20 drawn, L = 1: 1 or more has the chance of 19 in 20.
        BulkSamples z = Check.sampled(20, 19);
        z.wrong(1, 0, 1);
        check.same("19 in 20 were 1 wrong; 1 in 10 or less were 2", z.verdict(1), 2);
        z.bound(900);
        check.same("1 or fewer of 2 wrong: 1 in 10 is at most 100 in 1000", z.verdict(1), 1);
        z.bound(901);
        check.same("and more than 99 in 1000", z.verdict(1), 2);
    }

    // "TRUST t (950 at first)"
    private static void atTheFirstTrust() {
        check.same("none of 19 of 25, were 2 wrong: 1 in 20", Check.sampled(25, 19).verdict(1), 1);
        check.same("none of 18 of 25, were 2 wrong: 7 in 100", Check.sampled(25, 18).verdict(1), 2);
        BulkSamples x = Check.sampled(20, 1);
        x.wrong(1, 0, 1);
        check.same("1 of 1 of 20, were 1 wrong: 1 in 20", x.verdict(1), 3);
        x.bound(951);
        check.same("that is more than 49 in 1000", x.verdict(1), 2);
        x.bound(950);
        check.same("and at most 50 in 1000", x.verdict(1), 3);
        BulkSamples y = Check.sampled(20, 2);
        y.wrong(1, 0, 1);
        check.same("1 of 2 of 20, were 1 wrong: 2 in 20", y.verdict(1), 2);
    }

    private static void atTheEndsOfTrust() {
        int[] trusts = {500, 999};
        for (int trust : trusts) {
            int accepted = 0;
            int refused = 0;
            for (int n = 1; n <= 200; n++) {
                for (int found = 0; found <= 2; found++) {
                    accepted += leastSample(n, found, trust, 1);
                    refused += leastSample(n, found, trust, 3);
                }
            }
            check.holds("edges of accepted at " + trust + ": " + accepted, accepted > 10);
            check.holds("edges of refused at " + trust + ": " + refused, refused > 10);
        }
    }

    /** Looks for two samples, one item apart, of which one has the verdict; how many it found. */
    private static int leastSample(int n, int found, int trust, int verdict) {
        for (int drawn = Math.max(1, found); drawn < n; drawn++) {
            boolean first = Exact.verdict(n, drawn, found, trust) == verdict;
            if (first != (Exact.verdict(n, drawn + 1, found, trust) == verdict)) {
                atTrust(n, drawn, found, trust);
                atTrust(n, drawn + 1, found, trust);
                return 1;
            }
        }
        return 0;
    }

    private static void atTrust(int n, int drawn, int found, int trust) {
        BulkSamples x = Check.sampled(n, drawn);
        x.wrong(1, 0, found);
        x.bound(trust);
        check.same("verdict for " + found + " of " + drawn + " of " + n + " at " + trust, x.verdict(1),
            Exact.verdict(n, drawn, found, trust));
    }

    private static void allDrawn() {
        BulkSamples x = Check.sampled(19, 19);
        check.same("all drawn, none wrong", x.verdict(1), 1);
        x.wrong(1, 2, 1);
        check.same("all drawn, 1 wrong of 19", x.verdict(1), 3);
        BulkSamples y = Check.sampled(20, 20);
        y.wrong(1, 2, 1);
        check.same("all drawn, 1 wrong of 20", y.verdict(1), 1);
        y.wrong(1, 1, 1);
        check.same("all drawn, 2 wrong of 20", y.verdict(1), 3);
    }

    // "L being a twentieth of n (cut)"
    private static void twentiethIsCut() {
        int[][] limits = {{1, 0}, {19, 0}, {20, 1}, {39, 1}, {40, 2}, {199, 9}, {200, 10}};
        for (int[] row : limits) {
            BulkSamples x = Check.sampled(row[0], row[0]);
            x.bound(999);
            x.wrong(1, 0, row[1]);
            check.same("L of " + row[0] + " wrong", x.verdict(1), 1);
            x.wrong(1, 0, row[1] + 1);
            check.same("L + 1 of " + row[0] + " wrong", x.verdict(1), 3);
        }
    }

    private static void followsWhatIsWrong() {
        BulkSamples x = Check.sampled(200, 60);
        check.same("none wrong", x.verdict(1), 1);
        x.wrong(1, 0, 4);
        check.same("4 wrong", x.verdict(1), 2);
        x.wrong(1, 1, 4);
        check.same("8 wrong of two kinds", x.verdict(1), 3);
        check.same("and asked again", x.verdict(1), 3);
        x.wrong(1, 0, 0);
        check.same("4 wrong again", x.verdict(1), 2);
    }

    private static void againstTheExactChances() {
        for (int n = 1; n <= 200; n++) {
            int[] draws = {1, n / 10, n / 4, n / 3, n / 2, n - 2, n};
            for (int drawn : draws) {
                if (drawn >= 1) {
                    compare(n, drawn);
                }
            }
        }
    }

    private static void compare(int n, int drawn) {
        BulkSamples x = Check.sampled(n, drawn);
        int most = Math.min(drawn, 14);
        for (int found = 0; found <= most; found++) {
            x.wrong(1, (found + 2) % 3, 0);
            check.same("wrong ones", x.wrong(1, found % 3, found), found);
            int accepted = Exact.acceptedUpTo(n, drawn, found);
            int refused = Exact.refusedUpTo(n, drawn, found);
            for (int trust : new int[] {950, accepted, accepted + 1, refused, refused + 1}) {
                if (x.bound(trust)) {
                    check.same("verdict for " + found + " of " + drawn + " of " + n + " at " + trust,
                        x.verdict(1), Exact.verdict(n, drawn, found, trust));
                }
            }
        }
    }
}
