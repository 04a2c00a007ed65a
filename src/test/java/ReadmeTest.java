/** The answers that README.md writes behind its calls, in its order. */
public final class ReadmeTest {
    private static final Check check = new Check();

    public static void main(String[] args) {
        BulkSamples house = new BulkSamples();
        int mailing = house.mailing(200);
        check.same("mailing", mailing, 1);
        check.same("depth 1", house.depth(mailing, 1, 30), 30);
        check.same("depth 3", house.depth(mailing, 3, 140), 170);
        Check.fillTape(house, 60);
        check.same("sample", house.sample(mailing, 60), 60);
        check.same("kind 0", house.wrong(mailing, 0, 3), 3);
        check.same("kind 2", house.wrong(mailing, 2, 1), 4);
        check.sameDouble("shown", house.shown(mailing), 0.06666666666666667);
        check.same("verdict", house.verdict(mailing), 2);
        check.same("surcharge", house.surcharge(mailing), 30);
        check.same("chance", house.chance(200, 10, 60, 4, 1), 348290789L);
        check.same("the exact chance", Exact.chance(200, 10, 60, 4, 1), 348290789L);
        check.holds("bound", house.bound(650));
        check.same("verdict at 650", house.verdict(mailing), 3);
        check.same("surcharge at 650", house.surcharge(mailing), 450);
        check.same("share", house.share(4, 60), 66666);
        check.same("plan", house.plan(7, 0), 30);
        whatIsRefused();
        check.end();
    }

    /** The table of refusals, and the four calls that differ. */
    private static void whatIsRefused() {
        BulkSamples house = new BulkSamples();
        check.same("UNKNOWN", house.verdict(1), -11);
        check.sameDouble("shown of no mailing", house.shown(1), -1);
        check.same("OUTSIDE", house.mailing(201), -12);
        house.mailing(200);
        check.same("STATE", house.verdict(1), -13);
        check.sameDouble("shown when it is not sampled", house.shown(1), 0);
        check.same("ROOM", house.sample(1, 1), -14);
        check.holds("bound answers false", !house.bound(1000));
        Check.fillTape(house, 301);
        house.sample(1, 200);
        house.mailing(200);
        check.same("the tape took no 301st number", house.sample(2, 101), -14);
        check.same("the tape took 300 numbers", house.sample(2, 100), 100);
        for (int mailing = 3; mailing <= 20; mailing++) {
            check.same("mailing " + mailing, house.mailing(1), mailing);
        }
        check.same("ROOM, with 20 mailings", house.mailing(1), -14);
        try {
            house.share(4, 0);
            check.fail("share throws when all is 0");
        } catch (ArithmeticException e) {
            check.same("share afterwards", house.share(4, 60), 66666);
        }
    }
}
