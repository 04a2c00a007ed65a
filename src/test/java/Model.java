import java.util.ArrayDeque;
import java.util.ArrayList;
import java.util.List;

/** The document once more, as plainly as the Java library lets it be written; a row a mailing. */
final class Model {
    static final int ITEMS = 0, DRAWN = 1, DEPTH = 2, KIND = 6;

    private final List<int[]> mailings = new ArrayList<>();
    private final ArrayDeque<Integer> tape = new ArrayDeque<>();
    private final int[] plans = new int[50];
    private final String[] rows = new String[50];
    private int trust = 950;

    int mailing(int n) {
        if (n < 0 || n > 200) {
            return -12;
        }
        if (n == 0) {
            return 0;
        }
        if (mailings.size() == 20) {
            return -14;
        }
        int[] row = new int[9];
        row[ITEMS] = n;
        mailings.add(row);
        return mailings.size();
    }

    private boolean unknown(int mailing) {
        return mailing < 1 || mailing > mailings.size();
    }

    private static long all(int[] row, int from, int count, int changed, int n) {
        long all = 0;
        for (int i = 0; i < count; i++) {
            all += i == changed ? n : row[from + i];
        }
        return all;
    }

    int depth(int mailing, int depth, int n) {
        if (unknown(mailing)) {
            return -11;
        }
        int[] row = mailings.get(mailing - 1);
        long all = all(row, DEPTH, 4, depth, n);
        if (depth < 0 || depth > 3 || n < 0 || all > row[ITEMS]) {
            return -12;
        }
        if (row[DRAWN] > 0) {
            return -13;
        }
        row[DEPTH + depth] = n;
        return (int) all;
    }

    void tape(int v) {
        if (tape.size() < 300) {
            tape.add(v);
        }
    }

    int sample(int mailing, int n) {
        if (unknown(mailing)) {
            return -11;
        }
        if (n < 1) {
            return -12;
        }
        int[] row = mailings.get(mailing - 1);
        if (row[DRAWN] > 0) {
            return -13;
        }
        int drawn = n > row[ITEMS] ? row[ITEMS] : n;
        if (tape.size() < drawn) {
            return -14;
        }
        for (int i = 0; i < drawn; i++) {
            tape.remove();
        }
        row[DRAWN] = drawn;
        return drawn;
    }

    int wrong(int mailing, int kind, int n) {
        if (unknown(mailing)) {
            return -11;
        }
        int[] row = mailings.get(mailing - 1);
        long all = all(row, KIND, 3, kind, n);
        if (kind < 0 || kind > 2 || n < 0 || all > row[DRAWN]) {
            return -12;
        }
        if (row[DRAWN] == 0) {
            return -13;
        }
        row[KIND + kind] = n;
        return (int) all;
    }

    private static int found(int[] row) {
        return row[KIND] + row[KIND + 1] + row[KIND + 2];
    }

    int verdict(int mailing) {
        if (unknown(mailing)) {
            return -11;
        }
        int[] row = mailings.get(mailing - 1);
        return row[DRAWN] == 0 ? -13 : Exact.verdict(row[ITEMS], row[DRAWN], found(row), trust);
    }

    long chance(int n, int wrong, int sample, int found, int side) {
        boolean outside = n < 1 || n > 200 || wrong < 0 || wrong > n || sample < 0 || sample > n;
        return outside || side != 0 && side != 1 ? -12 : Exact.chance(n, wrong, sample, found, side);
    }

    double shown(int mailing) {
        if (unknown(mailing)) {
            return -1;
        }
        int[] row = mailings.get(mailing - 1);
        return row[DRAWN] == 0 ? 0 : found(row) / (double) row[DRAWN];
    }

    int plan(int customer, int good) {
        if (customer < 0 || customer > 49 || good < 0 || good > 2) {
            return -12;
        }
        if (rows[customer] == null) {
            rows[customer] = "";
            plans[customer] = 20;
        }
        if (good == 0) {
            rows[customer] = "";
            plans[customer] = Math.min(60, plans[customer] + 10);
        } else if (good == 1) {
            rows[customer] += "g";
            if (rows[customer].equals("ggg")) {
                rows[customer] = "";
                plans[customer] = Math.max(5, plans[customer] - 5);
            }
        }
        return plans[customer];
    }

    long surcharge(int mailing) {
        int verdict = verdict(mailing);
        if (verdict <= 1) {
            return verdict == 1 ? 0 : verdict;
        }
        int[] row = mailings.get(mailing - 1);
        long discount = row[DEPTH + 1] + 2L * row[DEPTH + 2] + 3L * row[DEPTH + 3];
        return verdict == 3 ? discount : -Math.floorDiv(-discount * found(row), (long) row[DRAWN]);
    }

    boolean bound(int other) {
        if (other < 500 || other > 999) {
            return false;
        }
        trust = other;
        return true;
    }
}
