/** "An object is used for at most 512 calls": the 512th is answered like any other. */
public final class LastCallTest {
    private static final int CALLS = 512;
    private static final Check check = new Check();

    public static void main(String[] args) {
        everyCallAsTheLast();
        onlyOneKindOfCall();
        check.end();
    }

    /** 7 calls: mailing 1 sampled with a wrong one, mailing 2 not; then others up to the last but one. */
    private static BulkSamples beforeTheLast() {
        BulkSamples x = new BulkSamples();
        x.mailing(20);
        x.mailing(10);
        x.depth(1, 3, 20);
        x.tape(1);
        x.sample(1, 1);
        x.wrong(1, 0, 1);
        x.tape(2);
        for (int call = 8; call < CALLS; call++) {
            check.same("call " + call, x.plan(49, 2), 20);
        }
        return x;
    }

    private static void everyCallAsTheLast() {
        check.same("mailing", beforeTheLast().mailing(200), 3);
        check.same("depth", beforeTheLast().depth(2, 3, 10), 10);
        check.same("a refused depth", beforeTheLast().depth(1, 3, 10), BulkSamples.STATE);
        beforeTheLast().tape(3);
        check.same("sample", beforeTheLast().sample(2, 1), 1);
        check.same("a refused sample", beforeTheLast().sample(2, 2), BulkSamples.ROOM);
        check.same("wrong", beforeTheLast().wrong(1, 0, 0), 0);
        check.same("verdict", beforeTheLast().verdict(1), 3);
        check.same("chance", beforeTheLast().chance(200, 100, 100, 50, 0), 556207787L);
        check.same("share", beforeTheLast().share(-1, 3), -333333);
        check.sameDouble("shown", beforeTheLast().shown(1), 1);
        check.same("plan", beforeTheLast().plan(49, 0), 30);
        check.same("surcharge", beforeTheLast().surcharge(1), 60);
        check.holds("bound", beforeTheLast().bound(999));
        check.holds("a refused bound", !beforeTheLast().bound(1000));
        BulkSamples x = beforeTheLast();
        try {
            x.share(1, 0);
            check.fail("share of 0 throws");
        } catch (ArithmeticException e) {
            check.same("share of 0 throws", 1, 1);
        }
    }

    private static void onlyOneKindOfCall() {
        BulkSamples mailings = new BulkSamples();
        BulkSamples chances = new BulkSamples();
        BulkSamples plans = new BulkSamples();
        BulkSamples verdicts = Check.sampled(200, 100);
        for (int call = 1; call <= CALLS; call++) {
            check.same("mailing, call " + call, mailings.mailing(200), call <= 20 ? call : BulkSamples.ROOM);
            check.same("chance, call " + call, chances.chance(200, 100, 100, 50, 1), 556207787L);
            check.same("plan, call " + call, plans.plan(0, 1), Math.max(5, 20 - call / 3 * 5));
            if (call <= CALLS - 102) {
                check.same("verdict, call " + call, verdicts.verdict(1), 1);
            }
        }
        BulkSamples tapes = new BulkSamples();
        for (int call = 1; call < CALLS - 3; call++) {
            tapes.tape(call);
        }
        check.same("mailing behind a long tape", tapes.mailing(200), 1);
        check.same("sample behind a long tape", tapes.sample(1, 200), 200);
        check.same("another mailing", tapes.mailing(200), 2);
        check.same("100 are left", tapes.sample(2, 101), BulkSamples.ROOM);
    }
}
