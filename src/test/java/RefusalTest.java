import java.util.ArrayList;
import java.util.List;

/** The refusals: which one of several is answered, and that a refused call changes nothing. */
public final class RefusalTest {
    private static final int LEAST = Integer.MIN_VALUE, MOST = Integer.MAX_VALUE;
    private static final long THROWN = -99;
    private static final Check check = new Check();

    private interface Call {
        long on(BulkSamples x);
    }

    private interface Scene {
        BulkSamples made();
    }

    /** A call that is refused, and its answer. */
    private record Refused(String name, long due, Call call) {
    }

    public static void main(String[] args) {
        unknownIsFirst();
        outsideIsSecond();
        stateIsThird();
        changesNothing("20 mailings: ", RefusalTest::twentyMailings, inTwentyMailings());
        changesNothing("no mailing: ", BulkSamples::new, inNoMailing());
        check.end();
    }

    // "of several the first one here: UNKNOWN .., OUTSIDE .., STATE .., ROOM"
    private static void unknownIsFirst() {
        BulkSamples x = Check.sampled(10, 10);
        for (int m : new int[] {0, 2, 20, 21, -1, LEAST, MOST}) {
            check.same("unknown and outside: depth", x.depth(m, 4, -1), BulkSamples.UNKNOWN);
            check.same("unknown and outside: sample", x.sample(m, 0), BulkSamples.UNKNOWN);
            check.same("unknown and room: sample", x.sample(m, 1), BulkSamples.UNKNOWN);
            check.same("unknown and outside: wrong", x.wrong(m, 3, -1), BulkSamples.UNKNOWN);
        }
    }

    private static void outsideIsSecond() {
        BulkSamples x = Check.sampled(10, 10);
        x.mailing(10);
        check.same("outside and state: depth -1", x.depth(1, -1, 0), BulkSamples.OUTSIDE);
        check.same("outside and state: depth 4", x.depth(1, 4, 0), BulkSamples.OUTSIDE);
        check.same("outside and state: declared below 0", x.depth(1, 0, -1), BulkSamples.OUTSIDE);
        check.same("outside and state: declared too many", x.depth(1, 0, 11), BulkSamples.OUTSIDE);
        check.same("outside, state and room: sample", x.sample(1, 0), BulkSamples.OUTSIDE);
        check.same("outside and room: sample", x.sample(2, 0), BulkSamples.OUTSIDE);
        check.same("outside and state: kind -1", x.wrong(2, -1, 0), BulkSamples.OUTSIDE);
        check.same("outside and state: kind 3", x.wrong(2, 3, 0), BulkSamples.OUTSIDE);
        check.same("outside and state: wrong below 0", x.wrong(2, 0, -1), BulkSamples.OUTSIDE);
        check.same("outside and state: wrong, none drawn", x.wrong(2, 0, 1), BulkSamples.OUTSIDE);
        BulkSamples y = twentyMailings();
        check.same("outside and room: mailing of -1", y.mailing(-1), BulkSamples.OUTSIDE);
        check.same("outside and room: mailing of 201", y.mailing(201), BulkSamples.OUTSIDE);
    }

    private static void stateIsThird() {
        BulkSamples x = Check.sampled(10, 5);
        check.same("state and room: sample", x.sample(1, 1), BulkSamples.STATE);
        check.same("state and room: sample of all", x.sample(1, MOST), BulkSamples.STATE);
        x.mailing(10);
        check.same("room alone: sample", x.sample(2, 1), BulkSamples.ROOM);
    }

    // "A call that is refused, or throws, changes nothing."
    private static void changesNothing(String where, Scene scene, List<Refused> refused) {
        List<Long> due = laterAnswers(scene.made(), true);
        List<Long> dueBackwards = laterAnswers(scene.made(), false);
        BulkSamples all = scene.made();
        for (Refused r : refused) {
            BulkSamples x = scene.made();
            check.same(where + r.name, r.call.on(x), r.due);
            check.holds(where + "nothing changed by " + r.name, laterAnswers(x, true).equals(due));
            BulkSamples y = scene.made();
            r.call.on(y);
            check.holds(where + "nothing changed by " + r.name, laterAnswers(y, false).equals(dueBackwards));
            check.same(where + "behind others, " + r.name, r.call.on(all), r.due);
        }
        check.holds(where + "nothing changed by all of them", laterAnswers(all, true).equals(due));
    }

    /**
     * Mailings 1 and 2 tell a trust of 950 from every other: none wrong is accepted up to 950, and up
     * to 949. Mailing 3 is sampled, with wrong ones of all kinds; 4 .. 20 are not; 5 are on the tape.
     */
    private static BulkSamples twentyMailings() {
        BulkSamples x = new BulkSamples();
        x.mailing(25);
        x.mailing(47);
        x.mailing(200);
        x.mailing(10);
        for (int m = 5; m <= 20; m++) {
            x.mailing(m * 10);
        }
        declare(x, 3);
        declare(x, 4);
        Check.fillTape(x, 19 + 29 + 30 + 5);
        x.sample(1, 19);
        x.sample(2, 29);
        x.sample(3, 30);
        for (int kind = 0; kind <= 2; kind++) {
            x.wrong(3, kind, 1);
        }
        x.plan(0, 1);
        x.plan(0, 1);
        x.plan(49, 0);
        x.plan(49, 1);
        return x;
    }

    private static void declare(BulkSamples x, int mailing) {
        for (int depth = 0; depth <= 3; depth++) {
            x.depth(mailing, depth, depth + 1);
        }
    }

    /** What some 120 calls answer: every number that is kept is told by one order or by the other. */
    private static List<Long> laterAnswers(BulkSamples x, boolean forwards) {
        List<Long> answers = new ArrayList<>();
        for (int m = 1; m <= 20; m++) {
            answers.add(Double.doubleToLongBits(x.shown(m)));
            answers.add(x.surcharge(m));
        }
        for (int m = 1; m <= 4; m++) {
            answers.add((long) x.verdict(m));
            for (int i = 0; i <= 3; i++) {
                answers.add((long) x.depth(m, forwards ? i : 3 - i, 0));
                answers.add((long) x.wrong(m, forwards ? i : 2 - i, 0));
            }
        }
        for (int customer : new int[] {0, 1, 48, 49}) {
            for (int i = 0; i < 3; i++) {
                answers.add((long) x.plan(customer, 1));
            }
        }
        answers.add((long) x.mailing(200));
        // One number of the tape for each, as long as there is one: so many are on it.
        for (int m = 20; m >= 5; m--) {
            answers.add((long) x.sample(m, 1));
        }
        answers.add((long) x.sample(1, 1));
        return answers;
    }

    private static long shareOfNothing(BulkSamples x, int part) {
        try {
            return x.share(part, 0);
        } catch (ArithmeticException e) {
            return THROWN;
        }
    }

    private static void add(List<Refused> to, String name, long due, Call call) {
        to.add(new Refused(name, due, call));
    }

    private static List<Refused> inTwentyMailings() {
        List<Refused> list = inNoMailing();
        add(list, "mailing(1)", BulkSamples.ROOM, x -> x.mailing(1));
        add(list, "mailing(200)", BulkSamples.ROOM, x -> x.mailing(200));
        add(list, "depth(4, -1, 1)", BulkSamples.OUTSIDE, x -> x.depth(4, -1, 1));
        add(list, "depth(4, 4, 1)", BulkSamples.OUTSIDE, x -> x.depth(4, 4, 1));
        add(list, "depth(4, 0, -1)", BulkSamples.OUTSIDE, x -> x.depth(4, 0, -1));
        add(list, "depth(4, 0, 2)", BulkSamples.OUTSIDE, x -> x.depth(4, 0, 2));
        add(list, "depth(4, 3, 5)", BulkSamples.OUTSIDE, x -> x.depth(4, 3, 5));
        add(list, "depth(4, 3, MOST)", BulkSamples.OUTSIDE, x -> x.depth(4, 3, MOST));
        add(list, "depth(3, 3, 0)", BulkSamples.STATE, x -> x.depth(3, 3, 0));
        add(list, "depth(3, 3, 194)", BulkSamples.STATE, x -> x.depth(3, 3, 194));
        add(list, "depth(3, 3, 195)", BulkSamples.OUTSIDE, x -> x.depth(3, 3, 195));
        add(list, "sample(4, 0)", BulkSamples.OUTSIDE, x -> x.sample(4, 0));
        add(list, "sample(4, LEAST)", BulkSamples.OUTSIDE, x -> x.sample(4, LEAST));
        add(list, "sample(3, 0)", BulkSamples.OUTSIDE, x -> x.sample(3, 0));
        add(list, "sample(3, 1)", BulkSamples.STATE, x -> x.sample(3, 1));
        add(list, "sample(3, 31)", BulkSamples.STATE, x -> x.sample(3, 31));
        add(list, "sample(4, 6)", BulkSamples.ROOM, x -> x.sample(4, 6));
        add(list, "sample(4, MOST)", BulkSamples.ROOM, x -> x.sample(4, MOST));
        add(list, "sample(20, 6)", BulkSamples.ROOM, x -> x.sample(20, 6));
        add(list, "wrong(3, -1, 1)", BulkSamples.OUTSIDE, x -> x.wrong(3, -1, 1));
        add(list, "wrong(3, 3, 1)", BulkSamples.OUTSIDE, x -> x.wrong(3, 3, 1));
        add(list, "wrong(3, 0, -1)", BulkSamples.OUTSIDE, x -> x.wrong(3, 0, -1));
        add(list, "wrong(3, 0, 29)", BulkSamples.OUTSIDE, x -> x.wrong(3, 0, 29));
        add(list, "wrong(3, 2, MOST)", BulkSamples.OUTSIDE, x -> x.wrong(3, 2, MOST));
        add(list, "wrong(4, 0, 1)", BulkSamples.OUTSIDE, x -> x.wrong(4, 0, 1));
        add(list, "wrong(4, 0, 0)", BulkSamples.STATE, x -> x.wrong(4, 0, 0));
        add(list, "verdict(4)", BulkSamples.STATE, x -> x.verdict(4));
        add(list, "surcharge(4)", BulkSamples.STATE, x -> x.surcharge(4));
        return list;
    }

    /** What is refused whether there are mailings or not. */
    private static List<Refused> inNoMailing() {
        List<Refused> list = new ArrayList<>();
        for (int n : new int[] {-1, 201, LEAST, MOST}) {
            add(list, "mailing(" + n + ")", BulkSamples.OUTSIDE, x -> x.mailing(n));
        }
        add(list, "mailing(0)", 0, x -> x.mailing(0));
        for (int m : new int[] {-1, 0, 21, LEAST, MOST}) {
            add(list, "depth(" + m + ", 0, 0)", BulkSamples.UNKNOWN, x -> x.depth(m, 0, 0));
            add(list, "sample(" + m + ", 1)", BulkSamples.UNKNOWN, x -> x.sample(m, 1));
            add(list, "wrong(" + m + ", 0, 0)", BulkSamples.UNKNOWN, x -> x.wrong(m, 0, 0));
            add(list, "verdict(" + m + ")", BulkSamples.UNKNOWN, x -> x.verdict(m));
            add(list, "surcharge(" + m + ")", BulkSamples.UNKNOWN, x -> x.surcharge(m));
            add(list, "shown(" + m + ")", -1, x -> (long) x.shown(m));
        }
        for (int part : new int[] {0, 1, LEAST}) {
            add(list, "share(" + part + ", 0)", THROWN, x -> shareOfNothing(x, part));
        }
        for (int bad : new int[] {-1, 50, LEAST, MOST}) {
            add(list, "plan(" + bad + ", 0)", BulkSamples.OUTSIDE, x -> x.plan(bad, 0));
        }
        for (int bad : new int[] {-1, 3, LEAST, MOST}) {
            add(list, "plan(0, " + bad + ")", BulkSamples.OUTSIDE, x -> x.plan(0, bad));
        }
        for (int trust : new int[] {499, 1000, LEAST, MOST}) {
            add(list, "bound(" + trust + ")", 0, x -> x.bound(trust) ? 1 : 0);
        }
        addChances(list);
        return list;
    }

    private static void addChances(List<Refused> list) {
        int[][] bad = {{0, 0, 0, 0, 0}, {201, 0, 0, 0, 0}, {9, -1, 0, 0, 0}, {9, 10, 0, 0, 0}, {9, 0, -1, 0, 0},
            {9, 0, 10, 0, 0}, {9, 0, 0, 0, -1}, {9, 0, 0, 0, 2}};
        for (int[] b : bad) {
            String name = "chance(" + b[0] + ", " + b[1] + ", " + b[2] + ", " + b[3] + ", " + b[4] + ")";
            add(list, name, BulkSamples.OUTSIDE, x -> x.chance(b[0], b[1], b[2], b[3], b[4]));
        }
    }
}
