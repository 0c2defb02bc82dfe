/** Promises 32 and 33: seeds and draws. */
public final class DrawsTest {
    public static void main(String[] args) {
        seeds();
        refused();
        draws();
        sums();
        nothingChanges();
        Road.finish();
    }

    private static void seeds() {
        DuneRoad road = new DuneRoad();
        Road.due("0 at first", road.seed(5), 0);
        Road.due("then 5", road.seed(2147483647), 5);
        Road.due("below 0", road.seed(-1), -1);
        Road.due("below 0", road.seed(Integer.MIN_VALUE), -1);
        Road.due("nothing happened", road.count(16), 2147483647);
        Road.due("back to 0", road.seed(0), 2147483647);
    }

    private static void refused() {
        DuneRoad none = new DuneRoad();
        Road.feed(none, "go 0");
        none.rule();
        Road.due("no sea", none.drawn(0, 1, 1, 0), -1);
        DuneRoad road = Road.on("sea 2;ship 0 9 0;storm 1 2", "go 0");
        int[][] not = {{1, 1, 1, 0}, {-1, 1, 1, 0}, {0, 0, 1, 0}, {0, 11, 1, 0}, {0, 1, 0, 0}, {0, 1, 101, 0}, {0, 1, 1, 3}, {0, 1, 1, -1}};
        for (int[] row : not) {
            Road.due("drawn", road.drawn(row[0], row[1], row[2], row[3]), -1);
        }
    }

    /** How many of the first draws are storms. */
    private static int stormsOf(long x, int draws, int odds, int of) {
        int sum = 0;
        for (int i = 0; i < draws; i++) {
            x = (x * 1103515245L + 12345L) & 0x7fffffffL;
            sum += (x >> 16) % of < odds ? 1 : 0;
        }
        return sum;
    }

    private static void draws() {
        for (int seed : new int[] {0, 1, 42, 2147483647}) {
            for (int odds = 0; odds <= 7; odds++) {
                DuneRoad road = Road.on("sea 2;ship 0 9 0;storm " + odds + " 7", "go 0");
                road.seed(seed);
                Road.due("storms of " + seed + " " + odds, road.drawn(0, 3, 50, 2), stormsOf(seed, 150, odds, 7));
                Road.due("x is as it was", road.count(16), seed);
            }
        }
        // x becomes 12345, a draw of 0, which is below 1.
        Road.due("the first draw of 0", Road.on("sea 2;storm 1 9", "go 0").drawn(0, 1, 1, 2), 1);
    }

    private static void sums() {
        // A storm each day: 2 less a day, so 9 is 0 behind day 5, and dry by day 6.
        DuneRoad road = Road.on("sea 2;ship 0 9 0;ship 1 30 0;storm 9 9", "go 0");
        Road.due("not yet", road.drawn(0, 10, 5, 0), 0);
        Road.due("dry in each", road.drawn(0, 10, 6, 0), 10);
        Road.due("both", road.drawn(0, 10, 100, 0), 20);
        Road.due("storms", road.drawn(0, 10, 100, 2), 1000);
        // 2, then 1, by the storm 0: dry by day 1.
        Road.due("the last water is lost, too", Road.on("sea 2;ship 0 2 0;storm 1 1", "go 0").drawn(0, 1, 2, 0), 1);
        // It fills each day what the last one took.
        DuneRoad paying = Road.on("sea 2;well 0 9 3;ship 0 9 0;storm 1 1", "fill 1=1");
        Road.due("coins", paying.drawn(0, 2, 4, 1), 2 * 3 * 2 * 3);
        paying.sail(0, 0);
        paying.fill(0);
        Road.due("coins in these alone", paying.drawn(0, 2, 4, 1), 2 * 3 * 2 * 3);
        DuneRoad calm = Road.on("sea 2;well 0 9 3;ship 0 9 0", "fill 1=1");
        Road.due("without storms", calm.drawn(0, 1, 4, 1), 3 * 3);
        Road.due("without storms", calm.drawn(0, 1, 100, 2), 0);
        // One that has no water has none to lose, and may still fill.
        DuneRoad low = Road.on("sea 2;well 0 9 1;ship 0 1 0;storm 1 1", "fill 1=1");
        Road.due("not dry", low.drawn(0, 1, 50, 0), 0);
        Road.due("one a day", low.drawn(0, 1, 50, 1), 49);
        DuneRoad dry = Road.on("sea 2;ship 0 1 0;ship 1 30 0", "go 0");
        dry.sail(1, 0);
        dry.sail(1, 0);
        Road.due("those that were dry count", dry.drawn(0, 3, 1, 0), 3);
    }

    private static void nothingChanges() {
        DuneRoad road = Road.on("sea 3;well 0 9 3;ground 1 2;ship 0 9 5;storm 1 2", "fill water<5;go 1");
        road.dig(1, 1, 3);
        road.fence(2, true);
        road.sail(0, 0);
        int[] was = new int[18];
        for (int what = 0; what < 18; what++) {
            was[what] = road.count(what);
        }
        road.drawn(0, 10, 100, 0);
        for (int what = 0; what < 18; what++) {
            Road.due("count " + what, road.count(what), was[what]);
        }
        Road.due("cell", road.ship(0, 0), 0);
        Road.due("water", road.ship(0, 1), 8);
        Road.due("acts can be undone", road.undo(), 2);
    }
}
