/** The boundaries of promises 26 (told) and 27 (winds). */
public final class WindBoundsTest {
    public static void main(String[] args) {
        toldWhereAndWhen();
        toldHeight();
        tenHeights();
        noneThen();
        windsOfATrain();
        withoutHeights();
        noneFits();
        lagsAndShifts();
        heightAtLeastZero();
        byFencesWithoutDiggings();
        Road.finish();
    }

    private static Bounds.Start on(String sea) {
        return road -> {
            Road.feed(road, sea);
            road.sea();
        };
    }

    private static void due(String what, DuneRoad road, int train, int many, int lag, int shift, int lags) {
        int[] due = {many, lag, shift, lags};
        for (int i = 0; i < 4; i++) {
            Road.due(what + ", what " + i, road.winds(train, i), due[i]);
        }
    }

    private static void toldWhereAndWhen() {
        for (int cell : new int[] {-3, -2, 5, 6, 12, Integer.MIN_VALUE, Integer.MAX_VALUE}) {
            Bounds.still("told of cell " + cell, Starts.RICH, -2, road -> road.told(cell, 0, 0));
        }
        Road.due("cell 0", Bounds.road(Starts.RICH).told(0, 0, 0), 2);
        Road.due("cell 4", Bounds.road(Starts.RICH).told(4, 0, 0), 2);
        Road.due("cell 11", Road.on("sea 12").told(11, 0, 0), 1);
        Road.due("cell 12", Road.on("sea 12").told(12, 0, 0), -2);
        Bounds.taken("told of day", Starts.RICH, 0, 9999, -2, (road, day) -> road.told(0, day, 0));
        Bounds.still("no sea", Starts.NEW, -2, road -> road.told(0, 0, 0));
        Bounds.still("no sea", Starts.NO_SEA, -2, road -> road.told(0, 0, 0));
        Bounds.still("nothing is right", Starts.RICH, -2, road -> road.told(5, 10000, 100));
        // The day and the cell that were told are those that count.
        DuneRoad road = Road.on("sea 12;train 3 4 0123456789");
        // Cell 11 on day 9999: 9999 + 4 - 33 = 9970, of 10 the rest 0.
        road.told(11, 9999, 0);
        Road.due("its own lag and shift are among them", road.winds(0, 3) >> 3 & 1, 1);
        // 9999 + shift - 11 * lag = 0 mod 10: shift = 1 + lag mod 10.
        due("one shift a lag", road, 0, 10, 0, 1, 1023);
        road.told(0, 0, 4);
        due("shift 4", road, 0, 1, 3, 4, 8);
    }

    private static void toldHeight() {
        Bounds.taken("told height", Starts.RICH, 0, 99, -2, (road, height) -> road.told(0, 0, height));
        DuneRoad road = Road.on("sea 2;train 0 0 00");
        Road.due("99", road.told(0, 0, 99), 1);
        due("99 is never so", road, 0, 0, -2, -2, 0);
        road.told(-1, 0, 0);
        road.told(0, 0, 0);
        due("0 is", road, 0, 20, 0, 0, 1023);
    }

    private static void tenHeights() {
        DuneRoad road = Road.on("sea 2;train 0 0 01");
        for (int i = 1; i <= 10; i++) {
            Road.due("told " + i, road.told(0, i == 10 ? 1 : 0, 0), i);
            Road.due("heights", road.count(11), i);
            if (i == 9) {
                due("nine", road, 0, 10, 0, 0, 1023);
            }
        }
        due("by the tenth none", road, 0, 0, -2, -2, 0);
        Road.due("an eleventh", road.told(0, 0, 0), -2);
        Bounds.still("an eleventh", Starts.FULL, -2, start -> start.told(0, 0, 0));
        Bounds.still("an eleventh of no cell", Starts.FULL, -2, start -> start.told(12, 0, 0));
    }

    /** cell NONE: none is told then, whatever the others are, and all else stays. */
    private static void noneThen() {
        Bounds.still("none of none", Starts.NEW, 0, road -> road.told(-1, 0, 0));
        Bounds.still("none of none", Starts.NO_SEA, 0, road -> road.told(-1, -5, 100));
        Bounds.still("none of none on a sea", on("sea 2"), 0, road -> road.told(-1, 10000, -1));
        for (Bounds.Start start : new Bounds.Start[] {Starts.RICH, Starts.FULL}) {
            DuneRoad road = Bounds.road(start);
            Road.due("none", road.told(-1, Integer.MIN_VALUE, Integer.MAX_VALUE), 0);
            Road.due("none", road.count(11), 0);
            Road.due("one again", road.told(1, 5, 7), 1);
        }
        Bounds.same("told and taken away", road -> {
            Starts.read(road);
            road.told(3, 3, 3);
            road.told(-1, 0, 0);
        }, Starts::read);
    }

    private static void windsOfATrain() {
        Bounds.asked("winds of train", Starts.RICH, 0, 1, -1, (road, train) -> road.winds(train, 0));
        Bounds.asked("winds of train of three", Starts.FULL, 0, 2, -1, (road, train) -> road.winds(train, 3));
        Bounds.asked("winds what", Starts.RICH, 0, 3, -1, (road, what) -> road.winds(0, what));
        Bounds.still("no trains", on("sea 2"), -1, road -> road.winds(0, 0));
        Bounds.still("no train and no what", Starts.RICH, -1, road -> road.winds(2, 4));
    }

    private static void withoutHeights() {
        due("two places", Road.on("sea 2;train 9 29 01"), 0, 20, 0, 0, 1023);
        due("twenty places", Road.on("sea 2;train 0 0 01234567890123456789"), 0, 200, 0, 0, 1023);
    }

    private static void noneFits() {
        DuneRoad road = Road.on("sea 2;train 0 0 012;ground 0 5;ground 1 5");
        road.told(0, 0, 4);
        due("one below all", road, 0, 0, -2, -2, 0);
        road.told(-1, 0, 0);
        road.told(0, 0, 5);
        due("the least", road, 0, 10, 0, 0, 1023);
        road.told(-1, 0, 0);
        road.told(0, 0, 7);
        due("the greatest", road, 0, 10, 0, 2, 1023);
        road.told(-1, 0, 0);
        road.told(0, 0, 8);
        due("one above all", road, 0, 0, -2, -2, 0);
    }

    /** LAGS 0 to 9, SHIFTS 0 to PERIOD less 1. */
    private static void lagsAndShifts() {
        // Cell 1 on day 0 is at shift - lag; row of 20 that is 1 at 10 alone; in cell 0 it is 1 on day 10 - shift.
        for (int lag = 0; lag <= 9; lag++) {
            for (int shift = 0; shift < 20; shift += 19) {
                DuneRoad road = Road.on("sea 2;train 5 5 00000000001000000000");
                // Cell 0: 1 on day d with d + shift = 10 mod 20; cell 1: with d + shift - lag = 10 mod 20.
                road.told(0, (30 - shift) % 20, 1);
                road.told(1, (30 - shift + lag) % 20, 1);
                due("lag " + lag + ", shift " + shift, road, 0, 1, lag, shift, 1 << lag);
            }
        }
        // A lag of 10 would be needed: none fits.
        DuneRoad road = Road.on("sea 2;train 5 5 00000000001000000000");
        road.told(0, 10, 1);
        road.told(1, 0, 1);
        due("a lag of 10", road, 0, 0, -2, -2, 0);
        // A shift of 29 fits as 29 less the period.
        DuneRoad shift = Road.on("sea 2;train 0 29 00000000001000000000");
        shift.told(0, 1, 1);
        due("shift 9 in place of 29", shift, 0, 10, 0, 9, 1023);
        // Lag 0 and lag 5 in a row of five.
        DuneRoad five = Road.on("sea 2;train 0 0 00001");
        five.told(0, 4, 1);
        five.told(1, 4, 1);
        due("lags 0 and 5", five, 0, 2, 0, 0, 33);
        // The other trains are as they are.
        DuneRoad two = Road.on("sea 2;train 1 0 05;train 0 0 01;ground 0 2");
        two.told(0, 1, 8);
        due("of train 0", two, 0, 10, 0, 0, 1023);
        due("of train 1", two, 1, 10, 0, 0, 1023);
        two.told(1, 1, 6);
        // Cell 1 on day 1: train 0 is at 0, that is 0, and train 1 at most 1: train 0 must be 5 there.
        due("of train 0", two, 0, 5, 0, 0, 341);
        due("of train 1", two, 1, 0, -2, -2, 0);
    }

    /** HEIGHT is 0 at least: so what would be below 0 is as told. */
    private static void heightAtLeastZero() {
        DuneRoad road = Road.on("sea 2;train 0 0 01234");
        road.fence(0, true);
        road.told(0, 0, 0);
        due("0 to 3 are 0 by a fence", road, 0, 40, 0, 0, 1023);
        road.told(-1, 0, 0);
        road.told(0, 0, 1);
        due("4 is 1", road, 0, 10, 0, 4, 1023);
        road.told(-1, 0, 0);
        road.told(1, 0, 3);
        due("3 more behind it: 0, where shift is lag", road, 0, 10, 0, 0, 1023);
    }

    private static void byFencesWithoutDiggings() {
        DuneRoad road = Road.on("sea 2;train 0 0 01;ground 0 9");
        road.dig(0, 5, 30);
        road.told(0, 0, 9);
        due("as without the digging", road, 0, 10, 0, 0, 1023);
        road.fence(0, true);
        due("by a fence not", road, 0, 0, -2, -2, 0);
        road.told(-1, 0, 0);
        road.told(0, 0, 6);
        due("3 less", road, 0, 10, 0, 0, 1023);
    }
}
