/** Promise 3: depth. */
public final class DepthTest {
    private static final Check check = new Check();

    public static void main(String[] args) {
        inPlaceOfWhatWas();
        outsideNumbers();
        notMoreThanItHas();
        upToAllItems();
        untilItIsSampled();
        whichRefusal();
        check.end();
    }

    // "declared at a depth from now on (in place of what was): how many at all depths"
    private static void inPlaceOfWhatWas() {
        BulkSamples x = new BulkSamples();
        x.mailing(100);
        x.mailing(100);
        check.same("depth 0", x.depth(1, 0, 10), 10);
        check.same("depth 1", x.depth(1, 1, 20), 30);
        check.same("depth 2", x.depth(1, 2, 30), 60);
        check.same("depth 3", x.depth(1, 3, 40), 100);
        check.same("depth 2 anew", x.depth(1, 2, 5), 75);
        check.same("depth 3 gone", x.depth(1, 3, 0), 35);
        check.same("the same again", x.depth(1, 1, 20), 35);
        check.same("the other mailing", x.depth(2, 1, 1), 1);
    }

    // "OUTSIDE (a depth is not 0 .. 3, n below 0, ..)"
    private static void outsideNumbers() {
        BulkSamples x = new BulkSamples();
        x.mailing(10);
        x.depth(1, 0, 4);
        for (int depth : new int[] {-1, 4, Integer.MIN_VALUE, Integer.MAX_VALUE}) {
            check.same("depth " + depth, x.depth(1, depth, 1), BulkSamples.OUTSIDE);
        }
        for (int n : new int[] {-1, 11, Integer.MIN_VALUE, Integer.MAX_VALUE}) {
            check.same(n + " items", x.depth(1, 0, n), BulkSamples.OUTSIDE);
            check.same(n + " items", x.depth(1, 3, n), BulkSamples.OUTSIDE);
        }
        check.same("nothing changed", x.depth(1, 1, 0), 4);
    }

    // "OUTSIDE (.. or all would be more than it has)"
    private static void notMoreThanItHas() {
        BulkSamples x = new BulkSamples();
        x.mailing(10);
        x.depth(1, 0, 4);
        check.same("one too many", x.depth(1, 1, 7), BulkSamples.OUTSIDE);
        check.same("all it has", x.depth(1, 1, 6), 10);
        check.same("another one too many", x.depth(1, 2, 1), BulkSamples.OUTSIDE);
        check.same("what was does not count", x.depth(1, 0, 4), 10);
        check.same("one too many in place", x.depth(1, 0, 5), BulkSamples.OUTSIDE);
        check.same("nothing changed", x.depth(1, 2, 0), 10);
    }

    private static void upToAllItems() {
        for (int items : new int[] {1, 2, 199, 200}) {
            for (int depth = 0; depth <= 3; depth++) {
                BulkSamples x = new BulkSamples();
                x.mailing(items);
                check.same("one too many of " + items, x.depth(1, depth, items + 1), BulkSamples.OUTSIDE);
                check.same("all of " + items, x.depth(1, depth, items), items);
                check.same("and 1 elsewhere", x.depth(1, 3 - depth, 1), BulkSamples.OUTSIDE);
                check.same("and 0 elsewhere", x.depth(1, 3 - depth, 0), items);
                // Added up, these would be below 0 in an int.
                check.same("and very many elsewhere", x.depth(1, 3 - depth, Integer.MAX_VALUE), BulkSamples.OUTSIDE);
                check.same("-1 of " + items, x.depth(1, depth, -1), BulkSamples.OUTSIDE);
                check.same("none of " + items, x.depth(1, depth, 0), 0);
            }
        }
    }

    // "STATE (sampled)"
    private static void untilItIsSampled() {
        BulkSamples x = new BulkSamples();
        x.mailing(40);
        x.mailing(40);
        check.same("before", x.depth(1, 3, 20), 20);
        check.same("a sample is refused", x.sample(1, 1), BulkSamples.ROOM);
        check.same("still before", x.depth(1, 3, 30), 30);
        Check.fillTape(x, 1);
        check.same("a sample", x.sample(1, 1), 1);
        check.same("behind it", x.depth(1, 3, 40), BulkSamples.STATE);
        check.same("behind it, the same number", x.depth(1, 3, 30), BulkSamples.STATE);
        check.same("behind it, none", x.depth(1, 0, 0), BulkSamples.STATE);
        check.same("the other one is not sampled", x.depth(2, 3, 40), 40);
        x.wrong(1, 0, 1);
        check.same("refused", x.verdict(1), 3);
        check.same("30 are declared still", x.surcharge(1), 90);
    }

    // "UNKNOWN, OUTSIDE (..), STATE (sampled)"
    private static void whichRefusal() {
        BulkSamples x = Check.sampled(10, 2);
        check.same("unknown before outside", x.depth(2, 4, -1), BulkSamples.UNKNOWN);
        check.same("unknown", x.depth(0, 0, 1), BulkSamples.UNKNOWN);
        check.same("outside before sampled: depth", x.depth(1, 4, 1), BulkSamples.OUTSIDE);
        check.same("outside before sampled: below 0", x.depth(1, 0, -1), BulkSamples.OUTSIDE);
        check.same("outside before sampled: too many", x.depth(1, 0, 11), BulkSamples.OUTSIDE);
        check.same("sampled", x.depth(1, 0, 10), BulkSamples.STATE);
        check.same("sampled, and 0", x.depth(1, 0, 0), BulkSamples.STATE);
        // Were the refused 10 at depth 3 taken, there would be a surcharge.
        check.same("sampled", x.depth(1, 3, 10), BulkSamples.STATE);
        x.wrong(1, 0, 2);
        check.same("refused", x.verdict(1), 3);
        check.same("nothing is declared", x.surcharge(1), 0);
    }
}
