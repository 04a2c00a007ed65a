import java.math.BigInteger;

/** THE CHANCE and THE VERDICT straight from the document's words, with the library's BigInteger. */
final class Exact {
    private static final BigInteger[][] PASCAL = pascal();

    private static BigInteger[][] pascal() {
        BigInteger[][] rows = new BigInteger[201][201];
        for (int n = 0; n <= 200; n++) {
            for (int k = 0; k <= 200; k++) {
                if (k == 0) {
                    rows[n][k] = BigInteger.ONE;
                } else if (n == 0) {
                    rows[n][k] = BigInteger.ZERO;
                } else {
                    rows[n][k] = rows[n - 1][k - 1].add(rows[n - 1][k]);
                }
            }
        }
        return rows;
    }

    static BigInteger all(int n, int sample) {
        return PASCAL[n][sample];
    }

    static BigInteger asked(int n, int wrong, int sample, int found, int side) {
        BigInteger sum = BigInteger.ZERO;
        for (int k = 0; k <= sample; k++) {
            if (side == 0 ? k <= found : k >= found) {
                sum = sum.add(PASCAL[wrong][k].multiply(PASCAL[n - wrong][sample - k]));
            }
        }
        return sum;
    }

    static long chance(int n, int wrong, int sample, int found, int side) {
        return asked(n, wrong, sample, found, side).multiply(BigInteger.valueOf(1000000000L))
            .divide(all(n, sample)).longValueExact();
    }

    /** The greatest trust t for which the chance is at most 1000 - t in 1000. */
    static int greatestTrust(int n, int wrong, int sample, int found, int side) {
        BigInteger[] parts = asked(n, wrong, sample, found, side).multiply(BigInteger.valueOf(1000))
            .divideAndRemainder(all(n, sample));
        return 1000 - parts[0].intValueExact() - parts[1].signum();
    }

    static int acceptedUpTo(int n, int drawn, int found) {
        return greatestTrust(n, n / 20 + 1, drawn, found, 0);
    }

    static int refusedUpTo(int n, int drawn, int found) {
        return greatestTrust(n, n / 20, drawn, found, 1);
    }

    static int verdict(int n, int drawn, int found, int trust) {
        if (trust <= acceptedUpTo(n, drawn, found)) {
            return 1;
        }
        return trust <= refusedUpTo(n, drawn, found) ? 3 : 2;
    }
}
