/** Promises 22 to 25: sights, where the wreck lies, masts, when it shows. */
public final class WreckTest {
    public static void main(String[] args) {
        sights();
        cells();
        masts();
        shows();
        fencesAndDiggings();
        Road.finish();
    }

    private static void sights() {
        Road.due("none without a sea", new DuneRoad().sight(-1, false), 0);
        Road.due("no sea", new DuneRoad().sight(0, false), -2);
        DuneRoad road = Road.on("sea 2");
        Road.due("day -2", road.sight(-2, true), -2);
        Road.due("day 10000", road.sight(10000, true), -2);
        for (int i = 1; i <= 10; i++) {
            Road.due("sight " + i, road.sight(i == 1 ? 9999 : 0, true), i);
        }
        Road.due("an eleventh", road.sight(0, true), -2);
        Road.due("ten", road.count(10), 10);
        Road.due("none", road.sight(-1, true), 0);
        Road.due("none", road.count(10), 0);
        Road.due("sights are no acts", road.count(9), 0);
    }

    private static void cells() {
        Road.due("no sea", new DuneRoad().wreck(0), -1);
        // Day 0: cells 0 to 3 are 0, 8, 4, 2; day 1: 2, 0, 8, 4; day 2: 4, 2, 0, 8.
        DuneRoad road = Road.on("sea 4;train 1 0 0248");
        Road.due("all without sights", road.wreck(0), 15);
        Road.due("mast 61", road.wreck(61), -1);
        Road.due("mast -1", road.wreck(-1), -1);
        road.sight(0, true);
        Road.due("at most 2", road.wreck(2), 9);
        Road.due("at most 3", road.wreck(3), 9);
        Road.due("at most 4", road.wreck(4), 13);
        road.sight(2, false);
        Road.due("and then not", road.wreck(2), 9);
        Road.due("4 shows 4", road.wreck(4), 8);
        Road.due("none", road.wreck(8), 0);
        Road.due("all show", road.wreck(60), 0);
        road.sight(4002, false);
        Road.due("a round on", road.wreck(2), 9);
        road.sight(0, false);
        Road.due("both can't be", road.wreck(2), 0);
    }

    private static void masts() {
        Road.due("no sea", new DuneRoad().masts(0), -1);
        DuneRoad road = Road.on("sea 4;train 1 0 0248");
        Road.due("all", road.masts(0), 61);
        Road.due("cell 4", road.masts(4), -1);
        Road.due("cell -1", road.masts(-1), -1);
        road.sight(0, true);
        Road.due("8 and on", road.masts(1), 53);
        road.sight(2, false);
        Road.due("3 fits cell 0", road.wreck(3), 9);
        Road.due("7 fits cell 3", road.wreck(7), 8);
        Road.due("0 to 3", road.masts(0), 4);
        Road.due("8 and on, but below 2", road.masts(1), 0);
        Road.due("4 and on, but below 0", road.masts(2), 0);
        Road.due("2 to 7", road.masts(3), 6);
        road.sight(-1, true);
        road.sight(2, false);
        Road.due("one that did not show", road.masts(3), 8);
        Road.due("one that did not show", road.masts(2), 0);
    }

    private static void shows() {
        Road.due("no sea", new DuneRoad().shows(0, 0), -1);
        DuneRoad road = Road.on("sea 4;train 1 0 0248");
        Road.due("mast 61", road.shows(61, 0), -1);
        Road.due("mast -1", road.shows(-1, 0), -1);
        Road.due("day -1", road.shows(0, -1), -1);
        Road.due("day 10000", road.shows(0, 10000), -1);
        Road.due("all cells never at once", road.shows(4, 0), -2);
        Road.due("all cells", road.shows(8, 5), 5);
        road.sight(0, true);
        road.sight(2, false);
        // Mast 2: cells 0 and 3. Cell 0 shows on days 0, 1 mod 4, cell 3 on days 3, 0 mod 4.
        Road.due("mast 2", road.shows(2, 1), 4);
        Road.due("mast 2", road.shows(2, 4), 4);
        Road.due("beyond 9999", road.shows(2, 9999), 10000);
        // Mast 4: cell 3: days 3, 0, 1.
        Road.due("mast 4", road.shows(4, 2), 3);
        Road.due("no cell fits", road.shows(60, 0), -2);
        DuneRoad never = Road.on("sea 3;train 0 0 05;ground 0 1;ground 1 1");
        Road.due("some cells never", never.shows(0, 0), -2);
        never.sight(0, true);
        Road.due("one cell", never.wreck(0), 4);
        Road.due("it shows each other day", never.shows(0, 1), 2);
    }

    private static void fencesAndDiggings() {
        DuneRoad road = Road.on("sea 3;ground 0 3;ground 1 3;ground 2 3");
        road.sight(0, true);
        road.dig(0, 3, 30);
        Road.due("no diggings", road.wreck(2), 0);
        Road.due("no diggings", road.masts(0), 58);
        road.fence(0, true);
        Road.due("fences", road.wreck(2), 1);
        Road.due("fences", road.wreck(5), 5);
        Road.due("fences", road.masts(1), 55);
        Road.due("shows", road.shows(0, 7), 7);
    }
}
