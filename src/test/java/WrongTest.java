/** Promise 6: wrong. */
public final class WrongTest {
    private static final Check check = new Check();

    public static void main(String[] args) {
        inPlaceOfWhatWas();
        outsideNumbers();
        notMoreThanWereDrawn();
        upToAllDrawn();
        onlyWhenSampled();
        whichRefusal();
        check.end();
    }

    // "Of a kind so many drawn ones are wrong (in place of what was): how many of all kinds."
    private static void inPlaceOfWhatWas() {
        BulkSamples x = new BulkSamples();
        x.mailing(40);
        x.mailing(40);
        Check.fillTape(x, 40);
        x.sample(1, 20);
        x.sample(2, 20);
        check.same("kind 0", x.wrong(1, 0, 5), 5);
        check.same("kind 1", x.wrong(1, 1, 6), 11);
        check.same("kind 2", x.wrong(1, 2, 9), 20);
        check.same("kind 1 anew", x.wrong(1, 1, 2), 16);
        check.same("kind 2 gone", x.wrong(1, 2, 0), 7);
        check.same("the same again", x.wrong(1, 0, 5), 7);
        check.same("the other mailing", x.wrong(2, 0, 1), 1);
    }

    // "OUTSIDE (a kind is not 0 .. 2, n below 0, ..)"
    private static void outsideNumbers() {
        BulkSamples x = Check.sampled(40, 20);
        x.wrong(1, 0, 4);
        for (int kind : new int[] {-1, 3, Integer.MIN_VALUE, Integer.MAX_VALUE}) {
            check.same("kind " + kind, x.wrong(1, kind, 1), BulkSamples.OUTSIDE);
        }
        for (int n : new int[] {-1, 21, 40, Integer.MIN_VALUE, Integer.MAX_VALUE}) {
            check.same(n + " items", x.wrong(1, 0, n), BulkSamples.OUTSIDE);
            check.same(n + " items", x.wrong(1, 2, n), BulkSamples.OUTSIDE);
        }
        check.same("nothing changed", x.wrong(1, 1, 0), 4);
    }

    // "OUTSIDE (.. or all would be more than were drawn)"
    private static void notMoreThanWereDrawn() {
        BulkSamples x = Check.sampled(40, 20);
        x.wrong(1, 0, 4);
        check.same("one too many", x.wrong(1, 1, 17), BulkSamples.OUTSIDE);
        check.same("all drawn", x.wrong(1, 1, 16), 20);
        check.same("another one too many", x.wrong(1, 2, 1), BulkSamples.OUTSIDE);
        check.same("what was does not count", x.wrong(1, 0, 4), 20);
        check.same("one too many in place", x.wrong(1, 0, 5), BulkSamples.OUTSIDE);
        check.same("nothing changed", x.wrong(1, 2, 0), 20);
    }

    private static void upToAllDrawn() {
        for (int drawn : new int[] {1, 2, 199, 200}) {
            for (int kind = 0; kind <= 2; kind++) {
                BulkSamples x = Check.sampled(200, drawn);
                int other = (kind + 1) % 3;
                check.same("one too many of " + drawn, x.wrong(1, kind, drawn + 1), BulkSamples.OUTSIDE);
                check.same("all of " + drawn, x.wrong(1, kind, drawn), drawn);
                check.same("and 1 of another kind", x.wrong(1, other, 1), BulkSamples.OUTSIDE);
                check.same("and 0 of another kind", x.wrong(1, other, 0), drawn);
                // Added up, these would be below 0 in an int.
                check.same("and very many", x.wrong(1, other, Integer.MAX_VALUE), BulkSamples.OUTSIDE);
                check.same("-1 of " + drawn, x.wrong(1, kind, -1), BulkSamples.OUTSIDE);
                check.sameDouble("all of " + drawn + " still", x.shown(1), 1);
                check.same("none of " + drawn, x.wrong(1, kind, 0), 0);
            }
        }
    }

    // "STATE (not sampled)"
    private static void onlyWhenSampled() {
        BulkSamples x = new BulkSamples();
        x.mailing(10);
        x.mailing(10);
        check.same("none wrong, not sampled", x.wrong(1, 2, 0), BulkSamples.STATE);
        x.sample(1, 1);
        check.same("none wrong, and the sample was refused", x.wrong(1, 2, 0), BulkSamples.STATE);
        Check.fillTape(x, 1);
        x.sample(1, 1);
        check.same("none wrong, sampled", x.wrong(1, 2, 0), 0);
        check.same("one wrong, sampled", x.wrong(1, 2, 1), 1);
        check.same("the other one is not sampled", x.wrong(2, 2, 0), BulkSamples.STATE);
        check.same("nor has it so many drawn", x.wrong(2, 2, 1), BulkSamples.OUTSIDE);
    }

    // "UNKNOWN, OUTSIDE (..), STATE (not sampled)"
    private static void whichRefusal() {
        BulkSamples x = new BulkSamples();
        x.mailing(10);
        check.same("unknown before outside", x.wrong(2, 3, -1), BulkSamples.UNKNOWN);
        check.same("unknown", x.wrong(0, 0, 0), BulkSamples.UNKNOWN);
        check.same("outside before not sampled: kind", x.wrong(1, 3, 0), BulkSamples.OUTSIDE);
        check.same("outside before not sampled: below 0", x.wrong(1, 0, -1), BulkSamples.OUTSIDE);
        check.same("outside before not sampled: none drawn", x.wrong(1, 0, 1), BulkSamples.OUTSIDE);
        check.same("not sampled", x.wrong(1, 0, 0), BulkSamples.STATE);
        Check.fillTape(x, 10);
        x.sample(1, 10);
        check.same("nothing was wrong before", x.wrong(1, 1, 0), 0);
    }
}
