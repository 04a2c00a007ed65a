/** Promise 12: surcharge. */
public final class SurchargeTest {
    private static final Check check = new Check();

    public static void main(String[] args) {
        refusals();
        byVerdict();
        eachDepthCounts();
        roundedUp();
        wholePart();
        followsTrust();
        check.end();
    }

    // "UNKNOWN, STATE (not sampled)"
    private static void refusals() {
        BulkSamples x = new BulkSamples();
        x.mailing(10);
        x.depth(1, 3, 10);
        check.same("unknown", x.surcharge(0), BulkSamples.UNKNOWN);
        check.same("unknown", x.surcharge(2), BulkSamples.UNKNOWN);
        check.same("unknown", x.surcharge(Integer.MIN_VALUE), BulkSamples.UNKNOWN);
        check.same("not sampled", x.surcharge(1), BulkSamples.STATE);
        check.same("a sample is refused", x.sample(1, 1), BulkSamples.ROOM);
        check.same("not sampled still", x.surcharge(1), BulkSamples.STATE);
        Check.fillTape(x, 1);
        x.sample(1, 1);
        check.same("sampled, none wrong", x.surcharge(1), 0);
        x.wrong(1, 0, 1);
        check.same("sampled, refused", x.surcharge(1), 30);
    }

    /** Mailing 1 of n items, declared at the depths in their order, of which so many are drawn. */
    private static BulkSamples declared(int n, int drawn, int... depths) {
        BulkSamples x = new BulkSamples();
        x.mailing(n);
        for (int depth = 0; depth < depths.length; depth++) {
            x.depth(1, depth, depths[depth]);
        }
        Check.fillTape(x, drawn);
        x.sample(1, drawn);
        return x;
    }

    // "nothing for 1, all of the DISCOUNT for 3, its part as many as w is of s, .. for 2"
    private static void byVerdict() {
        BulkSamples x = declared(200, 60, 0, 0, 0, 200);
        check.same("accepted", x.verdict(1), 1);
        check.same("nothing when accepted", x.surcharge(1), 0);
        x.wrong(1, 1, 4);
        check.same("surcharged", x.verdict(1), 2);
        check.same("4 of 60 of 600 cents", x.surcharge(1), 40);
        x.wrong(1, 2, 4);
        check.same("refused", x.verdict(1), 3);
        check.same("all when refused", x.surcharge(1), 600);
        BulkSamples y = declared(200, 30, 0, 0, 0, 200);
        check.same("surcharged with none wrong", y.verdict(1), 2);
        check.same("no part", y.surcharge(1), 0);
        BulkSamples z = declared(200, 30);
        z.wrong(1, 0, 30);
        check.same("nothing declared, refused", z.surcharge(1), 0);
    }

    private static void eachDepthCounts() {
        BulkSamples x = declared(100, 100, 10, 20, 30, 40);
        x.wrong(1, 0, 100);
        check.same("20 + 2 * 30 + 3 * 40", x.surcharge(1), 200);
        check.same("depth 0 is 0 cents", allWrong(50, 0, 0, 0), 0);
        check.same("depth 1 is 1 cent", allWrong(0, 50, 0, 0), 50);
        check.same("depth 2 is 2 cents", allWrong(0, 0, 50, 0), 100);
        check.same("depth 3 is 3 cents", allWrong(0, 0, 0, 50), 150);
    }

    private static long allWrong(int... depths) {
        BulkSamples x = declared(50, 50, depths);
        x.wrong(1, 0, 50);
        return x.surcharge(1);
    }

    // "rounded up"
    private static void roundedUp() {
        check.same("1 of 30 of 30 cents", oneOfThirty(30), 1);
        check.same("1 of 30 of 31 cents", oneOfThirty(31), 2);
        check.same("1 of 30 of 59 cents", oneOfThirty(59), 2);
        check.same("1 of 30 of 60 cents", oneOfThirty(60), 2);
        check.same("1 of 30 of 61 cents", oneOfThirty(61), 3);
        check.same("1 of 30 of 29 cents", oneOfThirty(29), 1);
        check.same("1 of 30 of 1 cent", oneOfThirty(1), 1);
        check.same("1 of 30 of nothing", oneOfThirty(0), 0);
    }

    private static long oneOfThirty(int cents) {
        BulkSamples x = declared(200, 30, 0, cents);
        x.wrong(1, 0, 1);
        check.same("surcharged", x.verdict(1), 2);
        return x.surcharge(1);
    }

    /** All drawn are wrong, and the verdict is 2: the part is all of the discount. */
    private static void wholePart() {
        BulkSamples x = declared(20, 1, 0, 0, 0, 19);
        x.bound(951);
        x.wrong(1, 0, 1);
        check.same("surcharged", x.verdict(1), 2);
        check.same("1 of 1 of 57 cents", x.surcharge(1), 57);
        x.wrong(1, 0, 0);
        check.same("surcharged with none wrong", x.verdict(1), 2);
        check.same("0 of 1 of 57 cents", x.surcharge(1), 0);
    }

    private static void followsTrust() {
        BulkSamples x = declared(200, 30, 0, 200);
        x.wrong(1, 0, 3);
        check.same("surcharged at 950", x.surcharge(1), 20);
        x.bound(800);
        check.same("refused at 800", x.surcharge(1), 200);
        x.bound(900);
        check.same("surcharged at 900", x.surcharge(1), 20);
        x.wrong(1, 0, 0);
        x.bound(800);
        check.same("accepted at 800", x.surcharge(1), 0);
    }
}
