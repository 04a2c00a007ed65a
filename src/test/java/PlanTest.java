/** Promise 11: plan. */
public final class PlanTest {
    private static final Check check = new Check();

    public static void main(String[] args) {
        eachThirdGoodTakesFive();
        badAddsTen();
        rowBeginsAnewBehindABadOne();
        noneChangesNothing();
        allTheWayDownAndUp();
        customersAreApart();
        outsideNumbers();
        check.end();
    }

    private static void run(BulkSamples x, int customer, int[][] goodAndDue) {
        for (int i = 0; i < goodAndDue.length; i++) {
            check.same("plan " + i + " of the run", x.plan(customer, goodAndDue[i][0]), goodAndDue[i][1]);
        }
    }

    // "each third good one in a row (the row begins anew then, ..) takes 5, to 5 at least"
    private static void eachThirdGoodTakesFive() {
        BulkSamples x = new BulkSamples();
        int due = 20;
        for (int i = 1; i <= 30; i++) {
            if (i % 3 == 0 && due > 5) {
                due -= 5;
            }
            check.same("good one " + i, x.plan(0, 1), due);
        }
        // The row ended with the 30th, at the least there is.
        run(x, 0, new int[][] {{1, 5}, {1, 5}, {0, 15}, {1, 15}, {1, 15}, {1, 10}});
    }

    // "a bad one adds 10, to 60 at most"
    private static void badAddsTen() {
        run(new BulkSamples(), 49, new int[][] {{0, 30}, {0, 40}, {0, 50}, {0, 60}, {0, 60}, {2, 60}});
        // From 55 the 60 is the end of ten.
        run(new BulkSamples(), 1, new int[][] {{0, 30}, {0, 40}, {0, 50}, {0, 60}, {1, 60}, {1, 60}, {1, 55},
            {0, 60}, {1, 60}, {1, 60}, {1, 55}});
    }

    // "the row begins anew .. behind a bad one"
    private static void rowBeginsAnewBehindABadOne() {
        run(new BulkSamples(), 7, new int[][] {{1, 20}, {1, 20}, {0, 30}, {1, 30}, {1, 30}, {1, 25}, {1, 25},
            {0, 35}, {1, 35}, {1, 35}, {1, 30}});
    }

    // "or none (2: nothing changes)"
    private static void noneChangesNothing() {
        run(new BulkSamples(), 7, new int[][] {{2, 20}, {1, 20}, {2, 20}, {1, 20}, {2, 20}, {2, 20}, {1, 15},
            {2, 15}, {2, 15}, {2, 15}, {0, 25}, {2, 25}});
    }

    private static void allTheWayDownAndUp() {
        // From 60 the last that is taken leads to 5; from 5 the last that is added leads to 55, then 60.
        BulkSamples x = new BulkSamples();
        run(x, 0, new int[][] {{0, 30}, {0, 40}, {0, 50}, {0, 60}, {0, 60}});
        for (int due = 55; due >= 5; due -= 5) {
            run(x, 0, new int[][] {{1, due + 5}, {1, due + 5}, {1, due}});
        }
        run(x, 0, new int[][] {{1, 5}, {1, 5}, {1, 5}, {2, 5}});
        run(x, 0, new int[][] {{0, 15}, {0, 25}, {0, 35}, {0, 45}, {0, 55}, {0, 60}, {0, 60}, {2, 60}});
        // A bad one at the most begins the row anew all the same.
        run(x, 0, new int[][] {{1, 60}, {1, 60}, {0, 60}, {1, 60}, {1, 60}, {1, 55}});
    }

    // "A customer (0 .. 49)"
    private static void customersAreApart() {
        BulkSamples x = new BulkSamples();
        x.plan(0, 1);
        x.plan(1, 1);
        check.same("a third one, of another customer", x.plan(2, 1), 20);
        check.same("a bad one of another customer", x.plan(49, 0), 30);
        x.plan(0, 1);
        check.same("the third one", x.plan(0, 1), 15);
        check.same("the others", x.plan(1, 2), 20);
        check.same("the others", x.plan(2, 2), 20);
    }

    // "OUTSIDE."
    private static void outsideNumbers() {
        BulkSamples x = new BulkSamples();
        x.plan(0, 1);
        x.plan(0, 1);
        for (int bad : new int[] {-1, 50, Integer.MIN_VALUE, Integer.MAX_VALUE}) {
            check.same("customer " + bad, x.plan(bad, 1), BulkSamples.OUTSIDE);
            check.same("customer " + bad, x.plan(bad, 2), BulkSamples.OUTSIDE);
        }
        for (int bad : new int[] {-1, 3, Integer.MIN_VALUE, Integer.MAX_VALUE}) {
            check.same("good " + bad, x.plan(0, bad), BulkSamples.OUTSIDE);
            check.same("good " + bad, x.plan(49, bad), BulkSamples.OUTSIDE);
        }
        check.same("the third one", x.plan(0, 1), 15);
        check.same("the last customer", x.plan(49, 2), 20);
        for (int good = 0; good <= 2; good++) {
            check.same("customer 0, good " + good, x.plan(0, good), 25);
            check.same("customer 49, good " + good, x.plan(49, good), 30);
        }
    }
}
