/** Promise 11: plan. */
public final class PlanTest {
    private static final Check check = new Check();

    public static void main(String[] args) {
        eachThirdGoodTakesFive();
        badAddsTen();
        rowBeginsAnewBehindABadOne();
        noneChangesNothing();
        customersAreApart();
        outsideNumbers();
        check.end();
    }

    private static void run(BulkSamples x, int customer, int[][] goodAndDue) {
        for (int i = 0; i < goodAndDue.length; i++) {
            check.same("plan " + i + " of the run", x.plan(customer, goodAndDue[i][0]), goodAndDue[i][1]);
        }
    }

    private static void eachThirdGoodTakesFive() {
        BulkSamples x = new BulkSamples();
        int due = 20;
        for (int i = 1; i <= 30; i++) {
            if (i % 3 == 0 && due > 5) {
                due -= 5;
            }
            check.same("good one " + i, x.plan(0, 1), due);
        }
        // The row ended with the 30th, at the least there is.
        run(x, 0, new int[][] {{1, 5}, {1, 5}, {0, 15}, {1, 15}, {1, 15}, {1, 10}});
    }

    private static void badAddsTen() {
        run(new BulkSamples(), 49, new int[][] {{0, 30}, {0, 40}, {0, 50}, {0, 60}, {0, 60}, {2, 60}});
        // From 55 the 60 is the end of ten.
        run(new BulkSamples(), 1, new int[][] {{0, 30}, {0, 40}, {0, 50}, {0, 60}, {1, 60}, {1, 60}, {1, 55},
            {0, 60}, {1, 60}, {1, 60}, {1, 55}});
    }

    private static void rowBeginsAnewBehindABadOne() {
        run(new BulkSamples(), 7, new int[][] {{1, 20}, {1, 20}, {0, 30}, {1, 30}, {1, 30}, {1, 25}, {1, 25},
            {0, 35}, {1, 35}, {1, 35}, {1, 30}});
    }

    private static void noneChangesNothing() {
        run(new BulkSamples(), 7, new int[][] {{2, 20}, {1, 20}, {2, 20}, {1, 20}, {2, 20}, {2, 20}, {1, 15},
            {2, 15}, {2, 15}, {2, 15}, {0, 25}, {2, 25}});
    }

    private static void customersAreApart() {
        BulkSamples x = new BulkSamples();
        x.plan(0, 1);
        x.plan(1, 1);
        check.same("a third one, of another customer", x.plan(2, 1), 20);
        check.same("a bad one of another customer", x.plan(49, 0), 30);
        x.plan(0, 1);
        check.same("the third one", x.plan(0, 1), 15);
        check.same("the others", x.plan(1, 2), 20);
        check.same("the others", x.plan(2, 2), 20);
    }

    private static void outsideNumbers() {
        BulkSamples x = new BulkSamples();
        x.plan(0, 1);
        x.plan(0, 1);
        for (int bad : new int[] {-1, 50, Integer.MIN_VALUE, Integer.MAX_VALUE}) {
            check.same("customer " + bad, x.plan(bad, 1), BulkSamples.OUTSIDE);
            check.same("customer " + bad, x.plan(bad, 2), BulkSamples.OUTSIDE);
        }
        for (int bad : new int[] {-1, 3, Integer.MIN_VALUE, Integer.MAX_VALUE}) {
            check.same("good " + bad, x.plan(0, bad), BulkSamples.OUTSIDE);
            check.same("good " + bad, x.plan(49, bad), BulkSamples.OUTSIDE);
        }
        check.same("the third one", x.plan(0, 1), 15);
        check.same("the last customer", x.plan(49, 2), 20);
    }
}
