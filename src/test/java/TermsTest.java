/** The edges that the document's terms name; each method stands under the words that it tests. */
public final class TermsTest {
    private static final Check check = new Check();

    public static void main(String[] args) {
        twentyMailingsAtMost();
        oneTo200Items();
        noneDeclaredAtFirst();
        depthsZeroToThree();
        discountOfEachDepth();
        sampledOnce();
        noneWrongAtFirst();
        kindsZeroToTwo();
        allKindsTogether();
        fewerAndMore();
        check.end();
    }

    // "MAILINGS 1, 2, .. (20 at most)"
    private static void twentyMailingsAtMost() {
        BulkSamples x = new BulkSamples();
        for (int i = 1; i <= 20; i++) {
            check.same("mailing " + i + " before it is made", x.depth(i, 0, 0), BulkSamples.UNKNOWN);
            check.same("mailing " + i, x.mailing(i), i);
            check.same("mailing " + i + " is there", x.depth(i, 0, i), i);
        }
        check.same("a 21st", x.mailing(200), BulkSamples.ROOM);
        check.same("there is no 21st", x.depth(21, 0, 0), BulkSamples.UNKNOWN);
        check.same("there is no mailing 0", x.depth(0, 0, 0), BulkSamples.UNKNOWN);
        for (int i = 1; i <= 20; i++) {
            check.same("mailing " + i + " has no more", x.depth(i, 1, 1), BulkSamples.OUTSIDE);
            check.same("mailing " + i + " is as it was", x.depth(i, 1, 0), i);
        }
    }

    // "have 1 .. 200 ITEMS"
    private static void oneTo200Items() {
        BulkSamples x = new BulkSamples();
        check.same("201 items", x.mailing(201), BulkSamples.OUTSIDE);
        check.same("200 items", x.mailing(200), 1);
        check.same("-1 items", x.mailing(-1), BulkSamples.OUTSIDE);
        check.same("no items", x.mailing(0), 0);
        check.same("1 item", x.mailing(1), 2);
        check.same("201 of 200 declared", x.depth(1, 0, 201), BulkSamples.OUTSIDE);
        check.same("200 of 200 declared", x.depth(1, 0, 200), 200);
        check.same("2 of 1 declared", x.depth(2, 0, 2), BulkSamples.OUTSIDE);
        check.same("1 of 1 declared", x.depth(2, 0, 1), 1);
        Check.fillTape(x, 201);
        check.same("201 of 200 drawn", x.sample(1, 201), 200);
        check.same("2 of 1 drawn", x.sample(2, 2), 1);
    }

    // "declared at DEPTHS 0 .. 3 (none at first)"
    private static void noneDeclaredAtFirst() {
        BulkSamples x = new BulkSamples();
        x.mailing(10);
        x.depth(1, 3, 10);
        check.same("a second mailing", x.mailing(10), 2);
        for (int depth = 0; depth <= 3; depth++) {
            check.same("declared at first, depth " + depth, x.depth(2, depth, 0), 0);
        }
        check.same("all at once", x.depth(2, 2, 10), 10);
    }

    private static void depthsZeroToThree() {
        BulkSamples x = new BulkSamples();
        x.mailing(10);
        check.same("depth -1", x.depth(1, -1, 1), BulkSamples.OUTSIDE);
        check.same("depth 0", x.depth(1, 0, 1), 1);
        check.same("depth 3", x.depth(1, 3, 1), 2);
        check.same("depth 4", x.depth(1, 4, 1), BulkSamples.OUTSIDE);
        check.same("both are as they were", x.depth(1, 1, 0), 2);
    }

    // "the DISCOUNT is what each depth's number is times its items, in cents, added up"
    private static void discountOfEachDepth() {
        int[][] due = {{0, 200, 0}, {1, 200, 200}, {2, 200, 400}, {3, 200, 600}, {3, 1, 3}, {3, 0, 0}};
        for (int[] row : due) {
            BulkSamples x = new BulkSamples();
            x.mailing(200);
            x.depth(1, row[0], row[1]);
            Check.fillTape(x, 200);
            x.sample(1, 200);
            x.wrong(1, 0, 11);
            check.same("all of " + row[1] + " at depth " + row[0], x.surcharge(1), row[2]);
        }
    }

    // "A mailing is SAMPLED once"
    private static void sampledOnce() {
        BulkSamples x = new BulkSamples();
        x.mailing(10);
        x.mailing(10);
        Check.fillTape(x, 8);
        check.same("not sampled", x.verdict(1), BulkSamples.STATE);
        check.same("the first time", x.sample(1, 3), 3);
        check.same("the second time", x.sample(1, 3), BulkSamples.STATE);
        check.same("another number", x.sample(1, 5), BulkSamples.STATE);
        check.same("3 were drawn: not 4", x.wrong(1, 0, 4), BulkSamples.OUTSIDE);
        check.same("3 were drawn", x.wrong(1, 0, 3), 3);
        check.same("the other one is not sampled", x.verdict(2), BulkSamples.STATE);
        check.same("5 are left: not 6", x.sample(2, 6), BulkSamples.ROOM);
        check.same("5 are left", x.sample(2, 5), 5);
    }

    // "so many of what was drawn are WRONG, by KINDS 0 .. 2 (none at first)"
    private static void noneWrongAtFirst() {
        BulkSamples x = new BulkSamples();
        x.mailing(10);
        x.mailing(10);
        Check.fillTape(x, 20);
        x.sample(1, 10);
        x.wrong(1, 2, 10);
        x.sample(2, 10);
        check.sameDouble("none is wrong", x.shown(2), 0);
        for (int kind = 0; kind <= 2; kind++) {
            check.same("wrong at first, kind " + kind, x.wrong(2, kind, 0), 0);
        }
        check.same("all at once", x.wrong(2, 1, 10), 10);
    }

    private static void kindsZeroToTwo() {
        BulkSamples x = Check.sampled(10, 10);
        check.same("kind -1", x.wrong(1, -1, 1), BulkSamples.OUTSIDE);
        check.same("kind 0", x.wrong(1, 0, 1), 1);
        check.same("kind 2", x.wrong(1, 2, 1), 2);
        check.same("kind 3", x.wrong(1, 3, 1), BulkSamples.OUTSIDE);
        check.same("both are as they were", x.wrong(1, 1, 0), 2);
    }

    // "all kinds together not more than were drawn"
    private static void allKindsTogether() {
        BulkSamples x = Check.sampled(200, 3);
        check.same("1 of 3", x.wrong(1, 0, 1), 1);
        check.same("2 of 3", x.wrong(1, 1, 1), 2);
        check.same("4 of 3", x.wrong(1, 2, 2), BulkSamples.OUTSIDE);
        check.same("3 of 3", x.wrong(1, 2, 1), 3);
        for (int kind = 0; kind <= 2; kind++) {
            check.same("one more of kind " + kind, x.wrong(1, kind, 2), BulkSamples.OUTSIDE);
        }
        check.sameDouble("3 of 3 still", x.shown(1), 1);
        BulkSamples y = Check.sampled(1, 1);
        check.same("2 of 1", y.wrong(1, 0, 2), BulkSamples.OUTSIDE);
        check.same("1 of 1", y.wrong(1, 0, 1), 1);
        check.same("1 more of 1", y.wrong(1, 2, 1), BulkSamples.OUTSIDE);
    }

    // "that f or fewer (side 0), or f or more (side 1), of the sample are wrong"
    private static void fewerAndMore() {
        BulkSamples x = new BulkSamples();
        // 8 wrong of 10: a sample of 5 has 3 wrong ones at least (56 of all 252 samples), 5 at most (56).
        long[] orFewer = {0, 0, 0, 222222222L, 777777777L, 1000000000L, 1000000000L};
        long[] orMore = {1000000000L, 1000000000L, 1000000000L, 1000000000L, 777777777L, 222222222L, 0};
        for (int found = 0; found <= 6; found++) {
            check.same(found + " or fewer", x.chance(10, 8, 5, found, 0), orFewer[found]);
            check.same(found + " or more", x.chance(10, 8, 5, found, 1), orMore[found]);
        }
        for (int found : new int[] {-1, Integer.MIN_VALUE}) {
            check.same(found + " or fewer", x.chance(10, 8, 5, found, 0), 0);
            check.same(found + " or more", x.chance(10, 8, 5, found, 1), 1000000000L);
        }
        check.same("very many or fewer", x.chance(10, 8, 5, Integer.MAX_VALUE, 0), 1000000000L);
        check.same("very many or more", x.chance(10, 8, 5, Integer.MAX_VALUE, 1), 0);
    }
}
