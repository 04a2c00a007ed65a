/** Promise 2: mailing. */
public final class MailingTest {
    private static final Check check = new Check();

    public static void main(String[] args) {
        refusedTakeNoNumber();
        noneWithAnyNumberOfThem();
        twentyAtMost();
        itemsAreKept();
        check.end();
    }

    // "OUTSIDE (n is not 0 .. 200)"
    private static void refusedTakeNoNumber() {
        BulkSamples x = new BulkSamples();
        for (int n : new int[] {-1, 201, Integer.MIN_VALUE, Integer.MAX_VALUE}) {
            check.same("mailing of " + n, x.mailing(n), BulkSamples.OUTSIDE);
        }
        check.same("mailing of 0", x.mailing(0), 0);
        check.same("none was made", x.sample(1, 1), BulkSamples.UNKNOWN);
        check.same("mailing of 200", x.mailing(200), 1);
        check.same("mailing of 0", x.mailing(0), 0);
        check.same("mailing of 201", x.mailing(201), BulkSamples.OUTSIDE);
        check.same("mailing of 1", x.mailing(1), 2);
    }

    // "0 for none (n = 0), also with 20"
    private static void noneWithAnyNumberOfThem() {
        BulkSamples x = new BulkSamples();
        for (int made = 0; made < 20; made++) {
            check.same("none with " + made, x.mailing(0), 0);
            check.same("none is made", x.depth(made + 1, 0, 0), BulkSamples.UNKNOWN);
            check.same("the next one", x.mailing(3), made + 1);
        }
        check.same("none with 20", x.mailing(0), 0);
        check.same("and again", x.mailing(0), 0);
        check.same("1 is not taken with 20", x.mailing(1), BulkSamples.ROOM);
    }

    // "20 at most", "ROOM"
    private static void twentyAtMost() {
        BulkSamples x = new BulkSamples();
        for (int i = 1; i <= 20; i++) {
            check.same("mailing " + i, x.mailing(i), i);
        }
        check.same("a 21st of 1", x.mailing(1), BulkSamples.ROOM);
        check.same("a 21st of 200", x.mailing(200), BulkSamples.ROOM);
        check.same("none with 20", x.mailing(0), 0);
        check.same("201 items with 20", x.mailing(201), BulkSamples.OUTSIDE);
        check.same("-1 items with 20", x.mailing(-1), BulkSamples.OUTSIDE);
        check.same("there is no 21st", x.depth(21, 0, 0), BulkSamples.UNKNOWN);
        check.same("mailing 20 is as it was", x.depth(20, 0, 20), 20);
        check.same("mailing 1 is as it was", x.depth(1, 0, 2), BulkSamples.OUTSIDE);
    }

    // "A mailing of n items: its number"
    private static void itemsAreKept() {
        BulkSamples x = new BulkSamples();
        x.mailing(200);
        x.mailing(7);
        check.same("all of 1", x.depth(1, 0, 200), 200);
        check.same("all of 2", x.depth(2, 0, 7), 7);
        check.same("more than all of 2", x.depth(2, 0, 8), BulkSamples.OUTSIDE);
    }
}
