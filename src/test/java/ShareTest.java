/** Promise 9: share. */
public final class ShareTest {
    private static final int LEAST = Integer.MIN_VALUE, MOST = Integer.MAX_VALUE;
    private static final Check check = new Check();

    public static void main(String[] args) {
        same(1, 3, 333333);
        same(2, 3, 666666);
        same(-2, 3, -666666);
        same(2, -3, -666666);
        same(-2, -3, 666666);
        same(0, 7, 0);
        same(0, -7, 0);
        same(7, 7, 1000000);
        same(9, 7, 1285714);
        same(1, 1000001, 0);
        same(-1, 1000001, 0);
        same(MOST, 1, 2147483647000000L);
        same(LEAST, 1, -2147483648000000L);
        same(LEAST, -1, 2147483648000000L);
        same(LEAST, LEAST, 1000000);
        same(MOST, LEAST, -999999);
        same(LEAST, MOST, -1000000);
        same(1, MOST, 0);
        same(MOST, MOST, 1000000);
        same(MOST, -1, -2147483647000000L);
        // Cut towards 0 on both sides of the last millionth; in an int 2148 millions would wrap around.
        same(1, 1000000, 1);
        same(-1, 1000000, -1);
        same(1999999, 2000000, 999999);
        same(-1999999, 2000000, -999999);
        same(2147, 1, 2147000000L);
        same(2148, 1, 2148000000L);
        same(-2149, 1, -2149000000L);
        same(1, 1, 1000000);
        same(1, -1, -1000000);
        throwsForNothing();
        check.end();
    }

    // "A part of all in millionths, cut towards 0."
    private static void same(int part, int all, long due) {
        check.same("share(" + part + ", " + all + ")", new BulkSamples().share(part, all), due);
    }

    // "ArithmeticException when all is 0."
    private static void throwsForNothing() {
        BulkSamples x = Check.sampled(200, 60);
        x.depth(1, 0, 1);
        x.wrong(1, 0, 4);
        for (int part : new int[] {0, 1, -1, LEAST, MOST}) {
            check.holds("share(" + part + ", 0) throws ArithmeticException", throwsArithmetic(x, part));
        }
        check.same("what is wrong has not changed", x.wrong(1, 1, 0), 4);
        check.same("the verdict has not changed", x.verdict(1), 2);
        check.same("the plan has not changed", x.plan(0, 2), 20);
        check.same("the tape has not changed", x.mailing(1) + x.sample(2, 1), 2 + BulkSamples.ROOM);
        check.same("share afterwards", x.share(1, 2), 500000);
    }

    private static boolean throwsArithmetic(BulkSamples x, int part) {
        try {
            x.share(part, 0);
            return false;
        } catch (ArithmeticException e) {
            return e.getClass() == ArithmeticException.class;
        }
    }
}
