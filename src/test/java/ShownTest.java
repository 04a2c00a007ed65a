/** Promise 10: shown. */
public final class ShownTest {
    private static final Check check = new Check();

    public static void main(String[] args) {
        BulkSamples x = new BulkSamples();
        check.sameDouble("no such mailing", x.shown(1), -1);
        x.mailing(10);
        check.sameDouble("not sampled", x.shown(1), 0);
        check.sameDouble("no such mailing", x.shown(2), -1);
        check.sameDouble("no such mailing", x.shown(0), -1);
        check.sameDouble("no such mailing", x.shown(Integer.MIN_VALUE), -1);
        check.sameDouble("no such mailing", x.shown(Integer.MAX_VALUE), -1);
        check.same("a sample is refused", x.sample(1, 7), BulkSamples.ROOM);
        check.sameDouble("not sampled still", x.shown(1), 0);
        x.depth(1, 3, 10);
        check.sameDouble("declared, not sampled", x.shown(1), 0);
        Check.fillTape(x, 7);
        x.sample(1, 7);
        check.sameDouble("none wrong", x.shown(1), 0);
        x.wrong(1, 0, 1);
        check.sameDouble("1 of 7", x.shown(1), 1.0 / 7.0);
        x.wrong(1, 1, 2);
        check.sameDouble("3 of 7", x.shown(1), 3.0 / 7.0);
        x.wrong(1, 2, 4);
        check.sameDouble("all of 7", x.shown(1), 1);
        check.same("one more is refused", x.wrong(1, 2, 5), BulkSamples.OUTSIDE);
        check.sameDouble("all of 7 still", x.shown(1), 1);
        lastOfTwenty();
        everyShare(200);
        everyShare(49);
        check.end();
    }

    // "-1 when there is no such mailing"
    private static void lastOfTwenty() {
        BulkSamples x = new BulkSamples();
        for (int i = 1; i <= 20; i++) {
            check.sameDouble("mailing " + i + " before it is made", x.shown(i), -1);
            x.mailing(i);
            check.sameDouble("mailing " + i, x.shown(i), 0);
        }
        check.same("a 21st is refused", x.mailing(1), BulkSamples.ROOM);
        check.sameDouble("mailing 21", x.shown(21), -1);
    }

    // "The share of wrong ones in what was drawn, as a double"
    private static void everyShare(int drawn) {
        BulkSamples x = Check.sampled(200, drawn);
        for (int found = 0; found <= drawn && found <= 150; found++) {
            x.wrong(1, 1, found);
            check.sameDouble(found + " of " + drawn, x.shown(1), (double) found / (double) drawn);
        }
    }
}
