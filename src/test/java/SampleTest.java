/** Promise 5: sample. */
public final class SampleTest {
    private static final Check check = new Check();

    public static void main(String[] args) {
        drawsFromTheTape();
        allIfItHasLess();
        aboutAllOfThem();
        asManyAsTheTapeHas();
        whichRefusal();
        check.end();
    }

    // "each takes a number from the tape's beginning: how many"
    private static void drawsFromTheTape() {
        BulkSamples x = new BulkSamples();
        x.mailing(50);
        x.mailing(50);
        x.mailing(50);
        Check.fillTape(x, 30);
        check.same("12 of 1", x.sample(1, 12), 12);
        check.same("19 of 2, 18 left", x.sample(2, 19), BulkSamples.ROOM);
        check.same("18 of 2, 18 left", x.sample(2, 18), 18);
        check.same("1 of 3, none left", x.sample(3, 1), BulkSamples.ROOM);
        x.tape(1);
        check.same("1 of 3, 1 left", x.sample(3, 1), 1);
        check.same("12 were drawn from 1", x.wrong(1, 0, 12), 12);
        check.same("not 13", x.wrong(1, 0, 13), BulkSamples.OUTSIDE);
        check.same("18 were drawn from 2", x.wrong(2, 0, 18), 18);
        check.same("not 19", x.wrong(2, 0, 19), BulkSamples.OUTSIDE);
    }

    // "n items are drawn, all if it has less"
    private static void allIfItHasLess() {
        BulkSamples x = new BulkSamples();
        x.mailing(6);
        x.mailing(200);
        x.mailing(1);
        x.mailing(1);
        Check.fillTape(x, 208);
        check.same("7 of 6", x.sample(1, 7), 6);
        check.same("very many of 200", x.sample(2, Integer.MAX_VALUE), 200);
        check.same("1 of 1", x.sample(3, 1), 1);
        check.same("2 of 1", x.sample(4, 2), 1);
        x.mailing(1);
        check.same("the tape is at its end", x.sample(5, 1), BulkSamples.ROOM);
        check.same("6 were drawn", x.wrong(1, 0, 6), 6);
        check.same("not 7", x.wrong(1, 0, 7), BulkSamples.OUTSIDE);
    }

    private static void aboutAllOfThem() {
        for (int items : new int[] {1, 2, 6, 199, 200}) {
            for (int n : new int[] {1, items - 1, items, items + 1, 1000, Integer.MAX_VALUE}) {
                BulkSamples x = new BulkSamples();
                x.mailing(items);
                x.mailing(200);
                Check.fillTape(x, items);
                int drawn = n < items ? n : items;
                int due = n < 1 ? BulkSamples.OUTSIDE : drawn;
                check.same(n + " of " + items, x.sample(1, n), due);
                if (due > 0) {
                    check.same("not more wrong", x.wrong(1, 0, drawn + 1), BulkSamples.OUTSIDE);
                    check.same("all of them wrong", x.wrong(1, 0, drawn), drawn);
                }
                int left = due > 0 ? items - drawn : items;
                check.same("not more left", x.sample(2, left + 1), BulkSamples.ROOM);
                check.same("all that is left", x.sample(2, left), left > 0 ? left : BulkSamples.OUTSIDE);
            }
        }
    }

    // "ROOM (the tape has fewer than are drawn)"
    private static void asManyAsTheTapeHas() {
        for (int items : new int[] {1, 2, 50, 200}) {
            for (int n : new int[] {items, items + 1, 301, Integer.MAX_VALUE}) {
                BulkSamples x = new BulkSamples();
                x.mailing(items);
                Check.fillTape(x, items - 1);
                check.same("one too few for " + n + " of " + items, x.sample(1, n), BulkSamples.ROOM);
                check.same("not sampled", x.wrong(1, 0, 0), BulkSamples.STATE);
                x.tape(1);
                check.same("just enough for " + n + " of " + items, x.sample(1, n), items);
                x.mailing(1);
                check.same("none is left", x.sample(2, 1), BulkSamples.ROOM);
            }
        }
    }

    // "UNKNOWN, OUTSIDE (n is below 1), STATE (sampled), ROOM (..)"
    private static void whichRefusal() {
        BulkSamples x = new BulkSamples();
        x.mailing(6);
        Check.fillTape(x, 4);
        for (int n : new int[] {0, -1, Integer.MIN_VALUE}) {
            check.same("unknown before outside", x.sample(2, n), BulkSamples.UNKNOWN);
            check.same("outside", x.sample(1, n), BulkSamples.OUTSIDE);
        }
        check.same("unknown before room", x.sample(0, 5), BulkSamples.UNKNOWN);
        check.same("room", x.sample(1, 5), BulkSamples.ROOM);
        check.same("room for all", x.sample(1, 100), BulkSamples.ROOM);
        check.same("still not sampled", x.verdict(1), BulkSamples.STATE);
        check.same("nothing was taken", x.sample(1, 4), 4);
        check.same("outside before sampled", x.sample(1, 0), BulkSamples.OUTSIDE);
        check.same("sampled before room", x.sample(1, 5), BulkSamples.STATE);
        x.tape(1);
        check.same("sampled once", x.sample(1, 1), BulkSamples.STATE);
        check.same("4 are drawn still", x.wrong(1, 0, 5), BulkSamples.OUTSIDE);
        x.mailing(1);
        check.same("and nothing was taken", x.sample(2, 1), 1);
    }
}
