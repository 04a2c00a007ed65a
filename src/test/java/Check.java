/** Counts the answers that are not as due; a test ends with exit code 1 if there was one. */
final class Check {
    private int failures;
    private int checks;

    void same(String call, long got, long due) {
        checks++;
        if (got != due) {
            fail(call + " answered " + got + ", due is " + due);
        }
    }

    void sameDouble(String call, double got, double due) {
        checks++;
        // The bits, so that -0.0 does not pass for 0.0.
        if (Double.doubleToLongBits(got) != Double.doubleToLongBits(due)) {
            fail(call + " answered " + got + ", due is " + due);
        }
    }

    void holds(String what, boolean got) {
        checks++;
        if (!got) {
            fail("not so: " + what);
        }
    }

    void fail(String what) {
        failures++;
        if (failures <= 20) {
            System.out.println(what);
        }
    }

    void end() {
        System.out.println(checks + " checks, " + failures + " failures");
        if (failures != 0) {
            System.exit(1);
        }
    }

    /** So many numbers behind the tape. */
    static void fillTape(BulkSamples x, int count) {
        for (int i = 0; i < count; i++) {
            x.tape(i);
        }
    }

    /** A new object with mailing 1 of n items, of which so many are drawn; the tape is empty. */
    static BulkSamples sampled(int n, int drawn) {
        BulkSamples x = new BulkSamples();
        x.mailing(n);
        fillTape(x, drawn);
        x.sample(1, drawn);
        return x;
    }
}
