/**
 * Bulk mailings of a post house: what is declared by sort depth, samples by a tape, wrong items
 * found, verdicts by exact chances, and plans by which customers are looked at more or less.
 */
public final class BulkSamples {
    public static final int UNKNOWN = -11, OUTSIDE = -12, STATE = -13, ROOM = -14;

    private static final int MAX_MAILINGS = 20;
    private static final int MAX_ITEMS = 200;
    private static final int DEPTHS = 4;
    private static final int KINDS = 3;
    private static final int MAX_TAPE = 300;
    private static final int CUSTOMERS = 50;

    private static final int ACCEPTED = 1, SURCHARGED = 2, REFUSED = 3;
    private static final int OR_FEWER = 0, OR_MORE = 1;
    private static final int BAD = 0, GOOD = 1, NONE = 2;

    private static final int FIRST_TRUST = 950, LEAST_TRUST = 500, MOST_TRUST = 999;
    private static final int FIRST_PLAN = 20, LEAST_PLAN = 5, MOST_PLAN = 60;
    private static final int GOOD_TAKES = 5, BAD_ADDS = 10, GOOD_ROW = 3;

    private final Mailing[] mailings;
    private final int[] plans;
    private final int[] goodRows;
    private final Odds odds;
    private int mailingCount;
    // No answer tells a number of the tape: only how many there are is kept.
    private int tapeLength;
    private int trust;

    public BulkSamples() {
        mailings = new Mailing[MAX_MAILINGS];
        plans = new int[CUSTOMERS];
        goodRows = new int[CUSTOMERS];
        for (int i = 0; i < plans.length; i++) {
            plans[i] = FIRST_PLAN;
        }
        odds = new Odds();
        trust = FIRST_TRUST;
    }

    public int mailing(int n) {
        if (n < 0 || n > MAX_ITEMS) {
            return OUTSIDE;
        }
        if (n == 0) {
            return 0;
        }
        if (mailingCount >= MAX_MAILINGS) {
            return ROOM;
        }
        mailings[mailingCount] = new Mailing(n);
        mailingCount++;
        return mailingCount;
    }

    public int depth(int mailing, int depth, int n) {
        Mailing m = find(mailing);
        if (m == null) {
            return UNKNOWN;
        }
        if (depth < 0 || depth >= DEPTHS || n < 0) {
            return OUTSIDE;
        }
        int others = sum(m.declared) - m.declared[depth];
        if (n > m.items - others) {
            return OUTSIDE;
        }
        if (m.isSampled()) {
            return STATE;
        }
        m.declared[depth] = n;
        return others + n;
    }

    public void tape(int v) {
        if (tapeLength < MAX_TAPE) {
            tapeLength++;
        }
    }

    public int sample(int mailing, int n) {
        Mailing m = find(mailing);
        if (m == null) {
            return UNKNOWN;
        }
        if (n < 1) {
            return OUTSIDE;
        }
        if (m.isSampled()) {
            return STATE;
        }
        int drawn = Math.min(n, m.items);
        if (tapeLength < drawn) {
            return ROOM;
        }
        tapeLength -= drawn;
        m.drawn = drawn;
        return drawn;
    }

    public int wrong(int mailing, int kind, int n) {
        Mailing m = find(mailing);
        if (m == null) {
            return UNKNOWN;
        }
        if (kind < 0 || kind >= KINDS || n < 0) {
            return OUTSIDE;
        }
        int others = sum(m.found) - m.found[kind];
        if (n > m.drawn - others) {
            return OUTSIDE;
        }
        if (!m.isSampled()) {
            return STATE;
        }
        m.found[kind] = n;
        return others + n;
    }

    public int verdict(int mailing) {
        Mailing m = find(mailing);
        if (m == null) {
            return UNKNOWN;
        }
        if (!m.isSampled()) {
            return STATE;
        }
        return judge(m);
    }

    public long chance(int n, int wrong, int sample, int found, int side) {
        if (n < 1 || n > MAX_ITEMS || wrong < 0 || wrong > n || sample < 0 || sample > n
                || side < OR_FEWER || side > OR_MORE) {
            return OUTSIDE;
        }
        odds.weigh(n, wrong, sample, found, side);
        return odds.inThousandMillionths();
    }

    public long share(int part, int all) throws ArithmeticException {
        if (all == 0) {
            throw new ArithmeticException("no share of nothing");
        }
        return part * 1000000L / all;
    }

    public double shown(int mailing) {
        Mailing m = find(mailing);
        if (m == null) {
            return -1;
        }
        if (!m.isSampled()) {
            return 0;
        }
        return (double) sum(m.found) / m.drawn;
    }

    public int plan(int customer, int good) {
        if (customer < 0 || customer >= CUSTOMERS || good < BAD || good > NONE) {
            return OUTSIDE;
        }
        if (good == BAD) {
            goodRows[customer] = 0;
            plans[customer] = Math.min(plans[customer] + BAD_ADDS, MOST_PLAN);
        }
        if (good == GOOD) {
            goodRows[customer]++;
        }
        if (goodRows[customer] == GOOD_ROW) {
            goodRows[customer] = 0;
            plans[customer] = Math.max(plans[customer] - GOOD_TAKES, LEAST_PLAN);
        }
        return plans[customer];
    }

    public long surcharge(int mailing) {
        Mailing m = find(mailing);
        if (m == null) {
            return UNKNOWN;
        }
        if (!m.isSampled()) {
            return STATE;
        }
        int verdict = judge(m);
        if (verdict == ACCEPTED) {
            return 0;
        }
        if (verdict == REFUSED) {
            return m.discount();
        }
        return (m.discount() * sum(m.found) + m.drawn - 1) / m.drawn;
    }

    public boolean bound(int trust) {
        if (trust < LEAST_TRUST || trust > MOST_TRUST) {
            return false;
        }
        this.trust = trust;
        return true;
    }

    /** The mailing of a number, or null when there is none. */
    private Mailing find(int number) {
        if (number < 1 || number > MAX_MAILINGS) {
            return null;
        }
        return mailings[number - 1];
    }

    private int judge(Mailing m) {
        int limit = m.items / 20;
        int found = sum(m.found);
        odds.weigh(m.items, limit + 1, m.drawn, found, OR_FEWER);
        if (odds.isAtMost(1000 - trust)) {
            return ACCEPTED;
        }
        odds.weigh(m.items, limit, m.drawn, found, OR_MORE);
        return odds.isAtMost(1000 - trust) ? REFUSED : SURCHARGED;
    }

    private static int sum(int[] counts) {
        int sum = 0;
        for (int i = 0; i < counts.length; i++) {
            sum += counts[i];
        }
        return sum;
    }

    /** One mailing; it is sampled as soon as something was drawn from it. */
    private static final class Mailing {
        final int items;
        final int[] declared = new int[DEPTHS];
        final int[] found = new int[KINDS];
        int drawn;

        Mailing(int items) {
            this.items = items;
        }

        boolean isSampled() {
            return drawn > 0;
        }

        long discount() {
            long cents = 0;
            for (int i = 0; i < declared.length; i++) {
                cents += (long) i * declared[i];
            }
            return cents;
        }
    }

    /** One chance as an exact fraction: of all samples that can be drawn, those that are asked for. */
    private static final class Odds {
        private final Whole asked = new Whole();
        private final Whole all = new Whole();
        private final Whole ways = new Whole();

        /** Counts the samples with found wrong ones or fewer (or more) in them, and all samples. */
        void weigh(int n, int wrong, int sample, int found, int side) {
            int right = n - wrong;
            int least = Math.max(0, sample - right);
            int most = Math.min(wrong, sample);
            all.setChoices(n, sample);
            // With the least wrong ones, either no wrong or every right item is drawn: one factor is 1.
            if (least == 0) {
                ways.setChoices(right, sample);
            } else {
                ways.setChoices(wrong, least);
            }
            asked.set(0);
            for (int k = least; k <= most; k++) {
                if (side == OR_FEWER ? k <= found : k >= found) {
                    asked.add(ways);
                }
                // From the samples with k wrong ones to those with k + 1; the division has no rest.
                ways.multiply((wrong - k) * (sample - k));
                ways.divide((k + 1) * (right - sample + k + 1));
            }
        }

        /** The fraction in thousand millionths, cut; what was weighed is used up. */
        long inThousandMillionths() {
            long quotient = 0;
            for (int place = 0; place < 10; place++) {
                quotient = quotient * 10 + takeAll();
                asked.multiply(10);
            }
            return quotient;
        }

        /** How often all goes into asked (9 times at most), which keeps the rest. */
        private int takeAll() {
            int times = 0;
            while (times < 9 && asked.isAtLeast(all)) {
                asked.subtract(all);
                times++;
            }
            return times;
        }

        /** Whether the fraction is so many thousandths or less; what was weighed is used up. */
        boolean isAtMost(int thousandths) {
            asked.multiply(1000);
            all.multiply(thousandths);
            return all.isAtLeast(asked);
        }
    }

    /**
     * A whole number of up to 72 digits, none below 0. What comes up is C(200, 100) * 200 * 200 at
     * most, of 64 digits.
     */
    private static final class Whole {
        private static final int PARTS = 8;
        private static final long BASE = 1000000000L;

        // The lowest part first.
        private final long[] parts = new long[PARTS];

        void set(int value) {
            for (int i = 0; i < PARTS; i++) {
                parts[i] = 0;
            }
            parts[0] = value;
        }

        /** In how many ways some of so many things can be chosen. */
        void setChoices(int things, int some) {
            // As many ways to choose as to leave: the shorter of both loops.
            int chosen = Math.min(some, things - some);
            set(1);
            for (int i = 1; i <= chosen; i++) {
                multiply(things - chosen + i);
                divide(i);
            }
        }

        void add(Whole other) {
            long carry = 0;
            for (int i = 0; i < PARTS; i++) {
                long sum = parts[i] + other.parts[i] + carry;
                carry = sum >= BASE ? 1 : 0;
                parts[i] = sum - carry * BASE;
            }
        }

        void subtract(Whole other) {
            long borrow = 0;
            for (int i = 0; i < PARTS; i++) {
                long rest = parts[i] - other.parts[i] - borrow;
                borrow = rest < 0 ? 1 : 0;
                parts[i] = rest + borrow * BASE;
            }
        }

        void multiply(int factor) {
            long carry = 0;
            for (int i = 0; i < PARTS; i++) {
                long product = parts[i] * factor + carry;
                carry = product / BASE;
                parts[i] = product % BASE;
            }
        }

        void divide(int divisor) {
            if (divisor < 1) {
                return;
            }
            long rest = 0;
            for (int i = PARTS - 1; i >= 0; i--) {
                long dividend = rest * BASE + parts[i];
                parts[i] = dividend / divisor;
                rest = dividend % divisor;
            }
        }

        boolean isAtLeast(Whole other) {
            for (int i = PARTS - 1; i >= 0; i--) {
                if (parts[i] != other.parts[i]) {
                    return parts[i] > other.parts[i];
                }
            }
            return true;
        }
    }
}
