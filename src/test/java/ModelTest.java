import java.util.Random;

/** Runs of 512 calls in any order, right and wrong ones, against the model: the same in every session. */
public final class ModelTest {
    private static final int[] ODD = {Integer.MIN_VALUE, -1000, -1, 0, 1, 201, 301, 1000, Integer.MAX_VALUE};
    private static final Check check = new Check();

    private final Random random;
    private final BulkSamples x = new BulkSamples();
    private final Model model = new Model();

    private ModelTest(int seed) {
        random = new Random(seed);
    }

    public static void main(String[] args) {
        for (int seed = 1; seed <= 400; seed++) {
            ModelTest run = new ModelTest(seed);
            for (int call = 1; call <= 512; call++) {
                run.step("run " + seed + ", call " + call + ": ");
            }
        }
        check.end();
    }

    /** Mostly a number from .. to, at times one beside it or an extreme one. */
    private int number(int from, int to) {
        int dice = random.nextInt(40);
        if (dice == 0) {
            return ODD[random.nextInt(ODD.length)];
        }
        if (dice == 1) {
            return random.nextBoolean() ? from - 1 : to + 1;
        }
        return from + random.nextInt(to - from + 1);
    }

    private int known() {
        return number(1, 6 + random.nextInt(15));
    }

    private void step(String where) {
        try {
            int dice = random.nextInt(100);
            if (dice < 8) {
                int n = random.nextInt(8) == 0 ? 0 : number(0, 200);
                check.same(where + "mailing(" + n + ")", x.mailing(n), model.mailing(n));
            } else if (dice < 18) {
                depth(where, known(), number(0, 3), number(0, random.nextInt(3) == 0 ? 200 : 40));
            } else if (dice < 50) {
                int v = random.nextInt();
                x.tape(v);
                model.tape(v);
            } else if (dice < 58) {
                int m = known();
                int n = number(1, random.nextInt(3) == 0 ? 200 : 40);
                check.same(where + "sample(" + m + ", " + n + ")", x.sample(m, n), model.sample(m, n));
            } else if (dice < 68) {
                wrong(where, known(), number(0, 2), number(0, random.nextInt(4) == 0 ? 40 : 3));
            } else {
                question(where, dice);
            }
        } catch (RuntimeException e) {
            check.fail(where + e);
        }
    }

    private void question(String where, int dice) {
        int m = known();
        if (dice < 76) {
            check.same(where + "verdict(" + m + ")", x.verdict(m), model.verdict(m));
        } else if (dice < 82) {
            check.same(where + "surcharge(" + m + ")", x.surcharge(m), model.surcharge(m));
        } else if (dice < 86) {
            check.sameDouble(where + "shown(" + m + ")", x.shown(m), model.shown(m));
        } else if (dice < 89) {
            int n = number(1, 200);
            chance(where, n, number(0, Math.max(0, Math.min(n, 200))), number(0, Math.max(0, Math.min(n, 200))));
        } else if (dice < 95) {
            int customer = random.nextInt(4) == 0 ? number(0, 49) : 3;
            int good = random.nextInt(3) == 0 ? number(0, 2) : 1;
            check.same(where + "plan(" + customer + ", " + good + ")", x.plan(customer, good), model.plan(customer, good));
        } else {
            int trust = number(500, 999);
            check.holds(where + "bound(" + trust + ")", x.bound(trust) == model.bound(trust));
        }
    }

    private void depth(String where, int m, int depth, int n) {
        check.same(where + "depth(" + m + ", " + depth + ", " + n + ")", x.depth(m, depth, n), model.depth(m, depth, n));
    }

    private void wrong(String where, int m, int kind, int n) {
        check.same(where + "wrong(" + m + ", " + kind + ", " + n + ")", x.wrong(m, kind, n), model.wrong(m, kind, n));
    }

    private void chance(String where, int n, int wrong, int sample) {
        int found = number(0, 50);
        int side = number(0, 1);
        check.same(where + "chance(" + n + ", " + wrong + ", " + sample + ", " + found + ", " + side + ")",
            x.chance(n, wrong, sample, found, side), model.chance(n, wrong, sample, found, side));
    }
}
