/** Promise 13: bound. */
public final class BoundTest {
    private static final Check check = new Check();

    public static void main(String[] args) {
        edges();
        refusedChangesNothing();
        countsForAllMailings();
        check.end();
    }

    // "true; false, when it is not 500 .. 999"
    private static void edges() {
        BulkSamples x = new BulkSamples();
        for (int trust : new int[] {500, 501, 750, 998, 999}) {
            check.holds("bound(" + trust + ")", x.bound(trust));
        }
        for (int trust : new int[] {499, 1000, 0, -1, -950, Integer.MIN_VALUE, Integer.MAX_VALUE}) {
            check.holds("no bound(" + trust + ")", !x.bound(trust));
        }
    }

    // "TRUST is another one from now on"
    private static void refusedChangesNothing() {
        // None wrong of 30 of 200: accepted up to a trust of 840, as the chance is 0.159108481.
        BulkSamples x = Check.sampled(200, 30);
        x.bound(840);
        check.same("at 840", x.verdict(1), 1);
        check.holds("no bound(1000)", !x.bound(1000));
        check.same("at 840 still", x.verdict(1), 1);
        x.bound(841);
        check.same("at 841", x.verdict(1), 2);
        check.holds("no bound(499)", !x.bound(499));
        check.same("at 841 still", x.verdict(1), 2);
        x.bound(999);
        check.same("at 999", x.verdict(1), 2);
        x.bound(500);
        check.same("at 500", x.verdict(1), 1);
    }

    private static void countsForAllMailings() {
        BulkSamples x = new BulkSamples();
        x.mailing(200);
        Check.fillTape(x, 60);
        x.sample(1, 30);
        x.bound(500);
        x.mailing(200);
        x.sample(2, 30);
        check.same("the one before", x.verdict(1), 1);
        check.same("the one behind", x.verdict(2), 1);
    }
}
