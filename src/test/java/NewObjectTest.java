/** Promise 1: no mailings, an empty tape, and what 'at first' says in the terms. */
public final class NewObjectTest {
    private static final Check check = new Check();

    public static void main(String[] args) {
        noMailings();
        emptyTape();
        firstValues();
        objectsShareNothing();
        check.end();
    }

    // "No mailings, .."
    private static void noMailings() {
        BulkSamples x = new BulkSamples();
        for (int m : new int[] {Integer.MIN_VALUE, -1, 0, 1, 20, 21, Integer.MAX_VALUE}) {
            check.same("depth of " + m, x.depth(m, 0, 0), BulkSamples.UNKNOWN);
            check.same("sample of " + m, x.sample(m, 1), BulkSamples.UNKNOWN);
            check.same("wrong of " + m, x.wrong(m, 0, 0), BulkSamples.UNKNOWN);
            check.same("verdict of " + m, x.verdict(m), BulkSamples.UNKNOWN);
            check.same("surcharge of " + m, x.surcharge(m), BulkSamples.UNKNOWN);
            check.sameDouble("shown of " + m, x.shown(m), -1);
        }
        check.same("the first mailing", x.mailing(1), 1);
    }

    // ".. an empty tape."
    private static void emptyTape() {
        BulkSamples x = new BulkSamples();
        x.mailing(1);
        check.same("a sample from the empty tape", x.sample(1, 1), BulkSamples.ROOM);
        x.tape(0);
        check.same("a sample from one number", x.sample(1, 1), 1);
        x.mailing(1);
        check.same("a sample from the empty tape again", x.sample(2, 1), BulkSamples.ROOM);
    }

    // "(none at first)", "(950 at first)", "20 at first"
    private static void firstValues() {
        BulkSamples x = Check.sampled(200, 30);
        check.same("no kind is wrong", x.wrong(1, 0, 0), 0);
        // None wrong of 19 of 25 is accepted up to a trust of 950, none wrong of 29 of 47 up to 949.
        check.same("trust is 950 at least", Check.sampled(25, 19).verdict(1), 1);
        check.same("trust is 950 at most", Check.sampled(47, 29).verdict(1), 2);
        for (int customer = 0; customer < 50; customer++) {
            check.same("plan of " + customer, x.plan(customer, 2), 20);
        }
    }

    private static void objectsShareNothing() {
        BulkSamples x = new BulkSamples();
        BulkSamples y = new BulkSamples();
        x.mailing(5);
        x.tape(1);
        x.plan(0, 0);
        x.bound(500);
        check.same("a mailing of the other", y.sample(1, 1), BulkSamples.UNKNOWN);
        y.mailing(2);
        check.same("the tape of the other", y.sample(1, 1), BulkSamples.ROOM);
        check.same("the plan of the other", y.plan(0, 2), 20);
        y.tape(1);
        y.sample(1, 1);
        // At 500 it would be accepted.
        check.same("the trust of the other", y.verdict(1), 2);
    }
}
