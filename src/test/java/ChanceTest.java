/** Promise 8: chance. */
public final class ChanceTest {
    private static final int[] FOUND_EDGES = {Integer.MIN_VALUE, -1, Integer.MAX_VALUE};
    private static final Check check = new Check();
    private static BulkSamples x = new BulkSamples();
    private static int calls;

    public static void main(String[] args) {
        ordinary();
        outsideNumbers();
        lastNumbersTaken();
        nothingChanges();
        allOfFewItems();
        manyItems();
        check.end();
    }

    // "in thousand millionths, cut"
    private static void ordinary() {
        same(3, 1, 1, 0, 0, 666666666L);
        same(3, 1, 1, 1, 1, 333333333L);
        same(10, 3, 4, 1, 0, 666666666L);
        same(10, 3, 4, 1, 1, 833333333L);
        same(10, 3, 4, 2, 1, 333333333L);
        same(10, 0, 4, 0, 0, 1000000000L);
        same(10, 0, 4, 1, 1, 0);
        same(10, 10, 4, 3, 0, 0);
        same(10, 10, 4, 4, 1, 1000000000L);
        same(200, 200, 200, 200, 0, 1000000000L);
        same(200, 200, 200, 200, 1, 1000000000L);
        // Cut, not rounded: only one sample of all those is left out.
        same(200, 100, 100, 99, 0, 999999999L);
        same(200, 100, 100, 1, 1, 999999999L);
    }

    // "OUTSIDE when n is not 1 .. 200, wrong or sample not 0 .. n, side not 0 or 1"
    private static void outsideNumbers() {
        for (int n : new int[] {0, -1, 201, Integer.MIN_VALUE, Integer.MAX_VALUE}) {
            same(n, 0, 0, 0, 0, BulkSamples.OUTSIDE);
        }
        for (int bad : new int[] {-1, 11, 200, Integer.MIN_VALUE, Integer.MAX_VALUE}) {
            same(10, bad, 5, 0, 0, BulkSamples.OUTSIDE);
            same(10, 5, bad, 0, 0, BulkSamples.OUTSIDE);
        }
        for (int side : new int[] {-1, 2, Integer.MIN_VALUE, Integer.MAX_VALUE}) {
            same(10, 5, 5, 2, side, BulkSamples.OUTSIDE);
        }
        same(200, 201, 0, 0, 0, BulkSamples.OUTSIDE);
        same(200, 0, 201, 0, 0, BulkSamples.OUTSIDE);
    }

    private static void lastNumbersTaken() {
        for (int n : new int[] {1, 2, 199, 200}) {
            same(n, 0, 0, 0, 0, 1000000000L);
            same(n, n, 0, 0, 1, 1000000000L);
            same(n, 0, n, 0, 0, 1000000000L);
            same(n, n, n, n, 1, 1000000000L);
            same(n, n, n, n - 1, 0, 0);
            same(n, n + 1, 0, 0, 0, BulkSamples.OUTSIDE);
            same(n, 0, n + 1, 0, 1, BulkSamples.OUTSIDE);
            same(n, -1, 0, 0, 0, BulkSamples.OUTSIDE);
            same(n, 0, -1, 0, 1, BulkSamples.OUTSIDE);
            same(n, n, n, n, -1, BulkSamples.OUTSIDE);
            same(n, n, n, n, 2, BulkSamples.OUTSIDE);
        }
    }

    private static void nothingChanges() {
        BulkSamples y = Check.sampled(200, 60);
        check.same("a verdict", y.verdict(1), 1);
        check.same("a chance", y.chance(3, 1, 1, 0, 0), 666666666L);
        check.same("the verdict is the same", y.verdict(1), 1);
        check.same("a chance outside", y.chance(3, 4, 1, 0, 0), BulkSamples.OUTSIDE);
        check.same("the verdict is the same", y.verdict(1), 1);
        check.same("the chance is the same", y.chance(3, 1, 1, 0, 0), 666666666L);
    }

    private static void allOfFewItems() {
        for (int n = 1; n <= 11; n++) {
            for (int wrong = 0; wrong <= n; wrong++) {
                for (int sample = 0; sample <= n; sample++) {
                    for (int found = -1; found <= n + 1; found++) {
                        bothSides(n, wrong, sample, found);
                    }
                    extremes(n, wrong, sample);
                }
            }
        }
    }

    private static void manyItems() {
        for (int n : new int[] {19, 67, 150, 199, 200}) {
            int[] counts = {0, 1, 2, n / 20, n / 20 + 1, n / 3, n / 2 - 1, n / 2, n / 2 + 1, n - 2, n - 1, n};
            for (int wrong : counts) {
                for (int sample : counts) {
                    for (int found = -1; found <= n; found += n < 70 ? 1 : 3) {
                        bothSides(n, wrong, sample, found);
                    }
                    bothSides(n, wrong, sample, Math.min(wrong, sample));
                    bothSides(n, wrong, sample, wrong + sample - n);
                    extremes(n, wrong, sample);
                }
            }
        }
    }

    private static void extremes(int n, int wrong, int sample) {
        for (int found : FOUND_EDGES) {
            bothSides(n, wrong, sample, found);
        }
    }

    private static void bothSides(int n, int wrong, int sample, int found) {
        same(n, wrong, sample, found, 0, Exact.chance(n, wrong, sample, found, 0));
        same(n, wrong, sample, found, 1, Exact.chance(n, wrong, sample, found, 1));
    }

    private static void same(int n, int wrong, int sample, int found, int side, long due) {
        calls++;
        if (calls % 512 == 0) {
            x = new BulkSamples();
        }
        check.same("chance(" + n + ", " + wrong + ", " + sample + ", " + found + ", " + side + ")",
            x.chance(n, wrong, sample, found, side), due);
    }
}
