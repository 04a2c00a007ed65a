/** Promise 4: tape. */
public final class TapeTest {
    private static final Check check = new Check();

    public static void main(String[] args) {
        anyNumberIsTaken();
        for (int count : new int[] {0, 1, 199, 200, 201, 299, 300}) {
            check.same("tape after " + count, lengthAfter(count), count);
        }
        check.same("tape after 301", lengthAfter(301), 300);
        check.same("tape after 400", lengthAfter(400), 300);
        roomAgainWhenTaken();
        check.end();
    }

    private static void anyNumberIsTaken() {
        int[] values = {0, -1, 1, 7, 7, Integer.MIN_VALUE, Integer.MAX_VALUE};
        BulkSamples x = new BulkSamples();
        x.mailing(values.length);
        for (int i = 0; i < values.length; i++) {
            check.same("a sample before number " + i, x.sample(1, values.length), BulkSamples.ROOM);
            x.tape(values[i]);
        }
        check.same("a sample of all", x.sample(1, values.length), values.length);
    }

    private static int lengthAfter(int count) {
        BulkSamples x = new BulkSamples();
        Check.fillTape(x, count);
        return takenFrom(x, 1);
    }

    /** Empties the tape, whatever its length, by 9 new mailings, the first of this number. */
    private static int takenFrom(BulkSamples x, int mailing) {
        int taken = 0;
        int number = mailing;
        for (int n : new int[] {200, 100, 64, 32, 16, 8, 4, 2, 1}) {
            x.mailing(n);
            int drawn = x.sample(number, n);
            taken += drawn > 0 ? drawn : 0;
            number++;
        }
        return taken;
    }

    private static void roomAgainWhenTaken() {
        BulkSamples x = new BulkSamples();
        Check.fillTape(x, 300);
        x.mailing(5);
        check.same("a sample", x.sample(1, 5), 5);
        Check.fillTape(x, 7);
        check.same("5 more are taken", takenFrom(x, 2), 300);
    }
}
