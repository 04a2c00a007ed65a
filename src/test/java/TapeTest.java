/** Promise 4: tape. */
public final class TapeTest {
    private static final Check check = new Check();

    public static void main(String[] args) {
        anyNumberIsTaken();
        noneIsKeptForLater();
        for (int count : new int[] {0, 1, 199, 200, 201, 299, 300}) {
            check.same("tape after " + count, lengthAfter(count), count);
        }
        check.same("tape after 301", lengthAfter(301), 300);
        check.same("tape after 400", lengthAfter(400), 300);
        roomAgainWhenTaken();
        check.end();
    }

    // "A number behind the tape."
    private static void anyNumberIsTaken() {
        int[] values = {0, -1, 1, 7, 7, Integer.MIN_VALUE, Integer.MAX_VALUE};
        BulkSamples x = new BulkSamples();
        x.mailing(values.length);
        for (int i = 0; i < values.length; i++) {
            check.same("a sample before number " + i, x.sample(1, values.length), BulkSamples.ROOM);
            x.tape(values[i]);
        }
        check.same("a sample of all", x.sample(1, values.length), values.length);
    }

    // "It is not taken when there are 300."
    private static int lengthAfter(int count) {
        BulkSamples x = new BulkSamples();
        Check.fillTape(x, count);
        return takenFrom(x, 1);
    }

    /** Empties the tape, whatever its length, by 9 new mailings, the first of this number. */
    private static int takenFrom(BulkSamples x, int mailing) {
        int taken = 0;
        int number = mailing;
        for (int n : new int[] {200, 100, 64, 32, 16, 8, 4, 2, 1}) {
            x.mailing(n);
            int drawn = x.sample(number, n);
            taken += drawn > 0 ? drawn : 0;
            number++;
        }
        return taken;
    }

    private static void noneIsKeptForLater() {
        BulkSamples x = new BulkSamples();
        Check.fillTape(x, 303);
        x.mailing(2);
        check.same("a sample from 300", x.sample(1, 2), 2);
        check.same("those that were not taken don't follow", takenFrom(x, 2), 298);
        x.mailing(1);
        check.same("nor at the end", x.sample(11, 1), BulkSamples.ROOM);
        BulkSamples y = new BulkSamples();
        Check.fillTape(y, 300);
        y.mailing(1);
        y.sample(1, 1);
        y.tape(1);
        y.tape(1);
        check.same("one more is taken, not two", takenFrom(y, 2), 300);
    }

    private static void roomAgainWhenTaken() {
        BulkSamples x = new BulkSamples();
        Check.fillTape(x, 300);
        x.mailing(5);
        check.same("a sample", x.sample(1, 5), 5);
        Check.fillTape(x, 7);
        check.same("5 more are taken", takenFrom(x, 2), 300);
    }
}
