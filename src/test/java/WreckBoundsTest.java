/** The boundaries of promises 22 (sight), 23 (wreck), 24 (masts) and 25 (shows). */
public final class WreckBoundsTest {
    public static void main(String[] args) {
        sightOnADay();
        tenSights();
        noneThen();
        wreckByAMast();
        showedOrNot();
        wreckOfNoneAndAll();
        mastsOfACell();
        mastsOfNoneAndAll();
        showsByMastAndDay();
        showsNever();
        showsWithinARound();
        byFencesWithoutDiggings();
        Road.finish();
    }

    private static Bounds.Start on(String sea) {
        return road -> {
            Road.feed(road, sea);
            road.sea();
        };
    }

    private static void sightOnADay() {
        for (int day : new int[] {-2, -3, 10000, 10001, Integer.MIN_VALUE, Integer.MAX_VALUE}) {
            Bounds.still("sight on day " + day, Starts.RICH, -2, road -> road.sight(day, true));
            Bounds.still("none on day " + day, Starts.RICH, -2, road -> road.sight(day, false));
        }
        Road.due("day 0", Bounds.road(Starts.RICH).sight(0, false), 3);
        Road.due("day 9999", Bounds.road(Starts.RICH).sight(9999, true), 3);
        Bounds.still("no sea", Starts.NEW, -2, road -> road.sight(0, true));
        Bounds.still("no sea", Starts.NO_SEA, -2, road -> road.sight(9999, false));
        // The day that was told is the one that counts.
        DuneRoad road = Road.on("sea 2;train 1 0 0123456789");
        road.sight(9999, true);
        Road.due("9 on day 9999 in cell 0, 8 in cell 1", road.wreck(8), 2);
        road.sight(-1, true);
        road.sight(0, false);
        Road.due("0 on day 0 in cell 0, 9 in cell 1", road.wreck(8), 2);
    }

    private static void tenSights() {
        DuneRoad road = Road.on("sea 2;train 0 0 05");
        for (int i = 1; i <= 10; i++) {
            Road.due("sight " + i, road.sight(i < 10 ? 0 : 1, i < 10), i);
            Road.due("sights", road.count(10), i);
        }
        // The tenth counts: 5 on day 1 did not show.
        Road.due("by the tenth", road.wreck(5), 0);
        Road.due("by the tenth", road.wreck(4), 3);
        Road.due("an eleventh", road.sight(0, true), -2);
        Bounds.still("an eleventh", Starts.FULL, -2, start -> start.sight(0, true));
        Bounds.still("an eleventh, of no day", Starts.FULL, -2, start -> start.sight(10000, true));
    }

    /** day NONE: there are none then, and all else stays. */
    private static void noneThen() {
        Bounds.still("none of none", Starts.NEW, 0, road -> road.sight(-1, true));
        Bounds.still("none of none", Starts.NO_SEA, 0, road -> road.sight(-1, false));
        Bounds.still("none of none on a sea", on("sea 2"), 0, road -> road.sight(-1, false));
        for (Bounds.Start start : new Bounds.Start[] {Starts.RICH, Starts.FULL}) {
            DuneRoad road = Bounds.road(start);
            Road.due("none", road.sight(-1, true), 0);
            Road.due("none", road.count(10), 0);
            Road.due("all cells", road.wreck(0), (1 << road.count(0)) - 1);
            Road.due("one again", road.sight(5, true), 1);
        }
        Bounds.same("told and taken away", road -> {
            Starts.read(road);
            road.sight(3, true);
            road.sight(4, false);
            road.sight(-1, true);
        }, Starts::read);
    }

    private static void wreckByAMast() {
        Bounds.asked("wreck by mast", Starts.RICH, 0, 60, -1, (road, mast) -> road.wreck(mast));
        Bounds.asked("wreck by mast", Starts.FULL, 0, 60, -1, (road, mast) -> road.wreck(mast));
        Bounds.still("no sea, no mast", Starts.NEW, -1, road -> road.wreck(61));
        Bounds.still("no sea", Starts.NO_SEA, -1, road -> road.wreck(60));
    }

    /** It showed: HEIGHT at most the MAST; it did not: above it. */
    private static void showedOrNot() {
        for (int ground = 0; ground <= 20; ground += 4) {
            for (int mast = Math.max(0, ground - 1); mast <= ground + 1; mast++) {
                DuneRoad road = Road.on("sea 2;ground 0 " + ground + ";ground 1 20");
                road.sight(7, true);
                Road.due("showed: " + ground + " by " + mast, road.wreck(mast) & 1, ground <= mast ? 1 : 0);
                road.sight(-1, true);
                road.sight(7, false);
                Road.due("did not: " + ground + " by " + mast, road.wreck(mast) & 1, ground > mast ? 1 : 0);
            }
        }
    }

    private static void wreckOfNoneAndAll() {
        DuneRoad road = Road.on("sea 12;ground 11 1");
        Road.due("without sights all twelve", road.wreck(0), 4095);
        Road.due("without sights all twelve", road.wreck(60), 4095);
        road.sight(0, true);
        Road.due("all but the last", road.wreck(0), 2047);
        Road.due("all", road.wreck(1), 4095);
        road.sight(0, false);
        Road.due("none", road.wreck(0), 0);
        road.sight(-1, false);
        road.sight(0, false);
        Road.due("the last", road.wreck(0), 2048);
        Road.due("none", road.wreck(1), 0);
    }

    private static void mastsOfACell() {
        Bounds.asked("masts of cell", Starts.RICH, 0, 4, -1, (road, cell) -> road.masts(cell));
        Bounds.asked("masts of cell of twelve", Starts.FULL, 0, 11, -1, (road, cell) -> road.masts(cell));
        Bounds.still("no sea", Starts.NO_SEA, -1, road -> road.masts(0));
    }

    private static void mastsOfNoneAndAll() {
        DuneRoad road = Road.on("sea 2;train 0 0 0123456789;train 0 0 0999999999;train 0 0 0999999999;ground 1 20");
        Road.due("without sights 0 to 60", road.masts(0), 61);
        road.sight(0, true);
        Road.due("from 0 on", road.masts(0), 61);
        Road.due("from 20 on", road.masts(1), 41);
        road.sight(9, true);
        Road.due("from 27 on", road.masts(0), 34);
        Road.due("from 47 on", road.masts(1), 14);
        road.sight(9, false);
        Road.due("both: none", road.masts(0), 0);
        road.sight(-1, true);
        road.sight(0, false);
        Road.due("below 0: none", road.masts(0), 0);
        Road.due("below 20", road.masts(1), 20);
        road.sight(-1, true);
        road.sight(9, false);
        road.sight(8, true);
        Road.due("from 26 on, below 27", road.masts(0), 1);
        Road.due("from 46 on, below 47", road.masts(1), 1);
        road.sight(8, false);
        Road.due("none", road.masts(0), 0);
        // As many as by asking for each mast.
        DuneRoad rich = Bounds.road(Starts.RICH);
        for (int cell = 0; cell < 5; cell++) {
            int fits = 0;
            for (int mast = 0; mast <= 60; mast++) {
                fits += rich.wreck(mast) >> cell & 1;
            }
            Road.due("masts of cell " + cell, rich.masts(cell), fits);
        }
    }

    private static void showsByMastAndDay() {
        Bounds.Start start = on("sea 3;train 1 0 012");
        Bounds.asked("shows by mast", start, 0, 60, -1, (road, mast) -> road.shows(mast, 0));
        Bounds.asked("shows by mast", Starts.FULL, 0, 60, -1, (road, mast) -> road.shows(mast, 9999));
        Bounds.asked("shows from day", Starts.RICH, 0, 9999, -1, (road, day) -> road.shows(60, day));
        Bounds.still("no mast and no day", Starts.RICH, -1, road -> road.shows(61, 10000));
        Bounds.still("no sea", Starts.NO_SEA, -1, road -> road.shows(0, 0));
    }

    private static void showsNever() {
        Bounds.Start start = on("sea 2;train 0 0 12;ground 1 3");
        Bounds.still("no day", start, -2, road -> road.shows(3, 0));
        Bounds.still("each other day", start, 0, road -> road.shows(4, 0));
        Bounds.still("each other day", start, 2, road -> road.shows(4, 1));
        Bounds.still("each day", start, 9999, road -> road.shows(5, 9999));
        Bounds.still("beyond 9999", start, 10000, road -> road.shows(4, 9999));
        Bounds.Start sighted = road -> {
            start.on(road);
            road.sight(0, true);
        };
        // By mast 1 cell 0 alone fits; by mast 0 none does.
        Bounds.still("in the cell that fits", sighted, 2, road -> road.shows(1, 1));
        Bounds.still("no cell fits", sighted, -2, road -> road.shows(0, 0));
        Bounds.still("in both", sighted, 10000, road -> road.shows(4, 9999));
        Bounds.Start both = road -> {
            sighted.on(road);
            road.sight(0, false);
        };
        Bounds.still("no cell can fit", both, -2, road -> road.shows(60, 0));
        Bounds.still("no mast all the same", both, -1, road -> road.shows(61, 0));
        Bounds.still("no day all the same", both, -1, road -> road.shows(60, 10000));
        Road.due("without trains", Road.on("sea 2;ground 1 3").shows(3, 9999), 9999);
        Road.due("without trains never", Road.on("sea 2;ground 1 3").shows(2, 9999), -2);
    }

    private static void showsWithinARound() {
        DuneRoad road = Road.on("sea 2;train 0 0 11111111111111110;train 0 0 1111111111111111110;train 0 0 11111111111111111110");
        Road.due("the last day of a round", road.shows(0, 0), 6459);
        Road.due("that day", road.shows(0, 6459), 6459);
        Road.due("a round on", road.shows(0, 6460), 12919);
        // Two of them are 0 on day 322, the one ahead of 17 times 19.
        Road.due("by a mast of 1 sooner", road.shows(1, 0), 322);
    }

    private static void byFencesWithoutDiggings() {
        DuneRoad road = Road.on("sea 3;ground 0 3;ground 1 3;ground 2 3;ship 0 9 9");
        road.sight(0, true);
        road.dig(0, 3, 30);
        Road.due("no digging", road.wreck(2), 0);
        Road.due("no digging", road.masts(0), 58);
        Road.due("no digging", road.shows(2, 0), -2);
        road.fence(0, true);
        Road.due("3 less", road.wreck(0), 1);
        Road.due("3 more", road.wreck(5), 5);
        Road.due("just as high", road.wreck(6), 7);
        Road.due("3 less", road.masts(0), 61);
        Road.due("3 more", road.masts(1), 55);
    }
}
