/** The boundaries of promises 6 (height), 7 (train), 8 (place), 9 (ship) and 34 (count), and of HEIGHT (terms II). */
public final class AskBoundsTest {
    public static void main(String[] args) {
        heightOfCellsAndDays();
        heightRoundTheRow();
        heightAtLeastZero();
        heightByFencesAtTheEnds();
        heightByDiggings();
        trains();
        places();
        placesJustOpen();
        ships();
        shipsThatAreDry();
        counts();
        Road.finish();
    }

    private static void heightOfCellsAndDays() {
        Bounds.asked("height of cell", Starts.RICH, 0, 4, -1, (road, cell) -> road.height(cell, 0));
        Bounds.asked("height of cell", Starts.FULL, 0, 11, -1, (road, cell) -> road.height(cell, 99999));
        Bounds.asked("height on day", Starts.RICH, 0, 99999, -1, (road, day) -> road.height(0, day));
        Bounds.asked("height on day", Starts.LAST_DAY, 0, 99999, -1, (road, day) -> road.height(3, day));
        Bounds.still("no cell and no day", Starts.RICH, -1, road -> road.height(5, 100000));
        for (int cells = 2; cells <= 12; cells++) {
            DuneRoad road = Road.on("sea " + cells + ";ground " + (cells - 1) + " 5");
            Road.due("the last cell of " + cells, road.height(cells - 1, 0), 5);
            Road.due("the cell behind it", road.height(cells, 0), -1);
        }
    }

    /** The place in a row is 0 and on: also where LAG takes it below 0. */
    private static void heightRoundTheRow() {
        DuneRoad road = Road.on("sea 12;train 9 0 1234567");
        // 0 - 9 * 11 = -99, of 7 the rest 6; a day on it is 0.
        Road.due("far below 0", road.height(11, 0), 7);
        Road.due("a day on", road.height(11, 1), 1);
        Road.due("-7, that is 0", Road.on("sea 2;train 7 0 1234567").height(1, 0), 1);
        Road.due("-1, that is the last", Road.on("sea 2;train 1 0 1234567").height(1, 0), 7);
        Road.due("0", Road.on("sea 2;train 1 1 1234567").height(1, 0), 1);
        Road.due("the last of the row", Road.on("sea 2;train 0 6 1234567").height(1, 0), 7);
        Road.due("the first again", Road.on("sea 2;train 0 7 1234567").height(1, 0), 1);
        // 99999 + 29 = 100028 = 7 * 14289 + 5.
        Road.due("the last day and shift", Road.on("sea 2;train 9 29 1234567").height(0, 99999), 6);
        // Three trains of 9, the highest ground, a fence ahead of it.
        DuneRoad high = Road.on("sea 2;train 0 0 99;train 0 0 99;train 0 0 99;ground 1 20");
        high.fence(0, true);
        Road.due("as high as can be", high.height(1, 0), 50);
    }

    private static void heightAtLeastZero() {
        for (int ground = 0; ground <= 6; ground++) {
            DuneRoad road = Road.on("sea 3;ground 1 " + ground);
            road.fence(1, true);
            Road.due("a fence in sand of " + ground, road.height(1, 0), Math.max(0, ground - 3));
            road.dig(1, 2, 1);
            Road.due("and a digging by 2", road.height(1, 0), Math.max(0, ground - 5));
            road.fence(0, true);
            Road.due("and a fence ahead of it", road.height(1, 0), Math.max(0, ground - 2));
        }
    }

    private static void heightByFencesAtTheEnds() {
        DuneRoad road = Road.on("sea 12;ground 0 9;ground 1 9;ground 10 9;ground 11 9");
        road.fence(11, true);
        Road.due("the last cell", road.height(11, 0), 6);
        Road.due("the first has none ahead of it", road.height(0, 0), 9);
        Road.due("the one ahead of it", road.height(10, 0), 9);
        road.fence(0, true);
        Road.due("the first cell", road.height(0, 0), 6);
        Road.due("the one behind it", road.height(1, 0), 12);
        road.fence(10, true);
        Road.due("the last cell, 3 less and 3 more", road.height(11, 0), 9);
    }

    /** A digging made on day 3 for 4 days: on days 3 to 6, until it is day 7. */
    private static void heightByDiggings() {
        DuneRoad road = Road.on("sea 2;ground 0 9;ground 1 9;ship 0 30 0");
        for (int i = 0; i < 3; i++) {
            road.sail(0, 0);
        }
        road.dig(1, 5, 4);
        for (int now = 3; now <= 7; now++) {
            for (int day = 0; day <= 9; day++) {
                boolean lasts = now <= 6 && day >= 3 && day <= 6;
                Road.due("on day " + now + " of day " + day, road.height(1, day), lasts ? 4 : 9);
                Road.due("the other cell", road.height(0, day), 9);
            }
            Road.due("diggings that last on day " + now, road.count(8), now <= 6 ? 1 : 0);
            road.sail(0, 0);
        }
    }

    private static void trains() {
        Bounds.asked("train", Starts.RICH, 0, 1, -1, (road, train) -> road.train(train, 0));
        Bounds.asked("train of three", Starts.FULL, 0, 2, -1, (road, train) -> road.train(train, 3));
        Bounds.asked("train what", Starts.RICH, 0, 3, -1, (road, what) -> road.train(0, what));
        Bounds.asked("train at a place of five", Starts.RICH, 100, 104, -1, (road, what) -> road.train(0, what));
        Bounds.asked("train at a place of four", Starts.RICH, 100, 103, -1, (road, what) -> road.train(1, what));
        Bounds.still("no train and its place", Starts.RICH, -1, road -> road.train(2, 100));
        Bounds.still("what between", Starts.RICH, -1, road -> road.train(0, 50));
        DuneRoad road = Road.on("sea 2;train 9 29 00000000000000000009;train 0 0 00");
        int[] due = {9, 29, 20, 9};
        for (int what = 0; what < 4; what++) {
            Road.due("train 0 " + what, road.train(0, what), due[what]);
        }
        Road.due("the last place", road.train(0, 119), 9);
        Road.due("the one ahead of it", road.train(0, 118), 0);
        Road.due("beyond", road.train(0, 120), -1);
        Road.due("greatest of zeros", road.train(1, 3), 0);
        Road.due("no place of another row", road.train(1, 102), -1);
        Road.due("no trains", Road.on("sea 2").train(0, 0), -1);
    }

    private static void places() {
        Bounds.asked("a well", Starts.RICH, 0, 2, -1, (road, place) -> road.place(place, 0));
        Bounds.asked("a town", Starts.RICH, 4, 5, -1, (road, place) -> road.place(place, 0));
        Bounds.asked("of eight places", Starts.FULL, 0, 7, -1, (road, place) -> road.place(place, 3));
        Bounds.asked("of a well what", Starts.RICH, 0, 3, -1, (road, what) -> road.place(2, what));
        Bounds.asked("of a town what", Starts.RICH, 0, 3, -1, (road, what) -> road.place(5, what));
        DuneRoad wells = Road.on("sea 2;well 0 0 1;well 1 60 99;well 0 1 2;well 1 2 3");
        Road.due("the fourth well", wells.place(3, 2), 3);
        Road.due("is no town", wells.place(4, 2), -1);
        DuneRoad towns = Road.on("sea 2;town 0 0 1;town 1 60 99;town 0 1 2;town 1 2 3");
        Road.due("the fourth town", towns.place(7, 2), 3);
        Road.due("is no well", towns.place(3, 2), -1);
        Road.due("nor is the first", towns.place(0, 2), -1);
        Road.due("nor is there an eighth", towns.place(8, 2), -1);
    }

    /** OPEN: HEIGHT is at most DEPTH or DOOR. */
    private static void placesJustOpen() {
        for (int limit = 0; limit <= 20; limit += 10) {
            for (int ground = Math.max(0, limit - 1); ground <= Math.min(20, limit + 1); ground++) {
                DuneRoad road = Road.on("sea 2;ground 1 " + ground + ";well 1 " + limit + " 1;town 1 " + limit + " 1");
                Road.due("well of " + limit + " in sand of " + ground, road.place(0, 3), ground <= limit ? 1 : 0);
                Road.due("town of " + limit + " in sand of " + ground, road.place(4, 3), ground <= limit ? 1 : 0);
            }
        }
        DuneRoad deep = Road.on("sea 2;train 0 0 99;train 0 0 99;train 0 0 99;ground 1 20;well 1 49 1;town 1 50 1;well 1 60 1");
        deep.fence(0, true);
        Road.due("50 is above 49", deep.place(0, 3), 0);
        Road.due("50 is 50", deep.place(4, 3), 1);
        Road.due("60 is always open", deep.place(1, 3), 1);
    }

    private static void ships() {
        Bounds.asked("a ship", Starts.RICH, 0, 2, -2, (road, ship) -> road.ship(ship, 0));
        Bounds.asked("of four ships", Starts.FULL, 0, 3, -2, (road, ship) -> road.ship(ship, 5));
        Bounds.asked("of a ship what", Starts.RICH, 0, 5, -2, (road, what) -> road.ship(2, what));
        Bounds.still("no ship, no what", Starts.RICH, -2, road -> road.ship(3, 6));
        Road.due("no ships", Road.on("sea 2").ship(0, 5), -2);
    }

    private static void shipsThatAreDry() {
        DuneRoad road = Road.on("sea 2;ship 0 1 0;ship 1 2 0;ship 1 30 0");
        int[][] dryOn = {{-1, -1}, {-1, -1}, {1, -1}, {1, 2}, {1, 2}};
        int[][] water = {{1, 2}, {0, 1}, {0, 0}, {0, 0}, {0, 0}};
        for (int day = 0; day < 5; day++) {
            for (int ship = 0; ship < 2; ship++) {
                Road.due("water of ship " + ship + " on day " + day, road.ship(ship, 1), water[day][ship]);
                Road.due("ship " + ship + " was dry by day " + day, road.ship(ship, 5), dryOn[day][ship]);
            }
            road.sail(2, 0);
        }
        Bounds.still("asked of one that is dry", Starts.DRY, 1, dry -> dry.ship(0, 5));
        Bounds.still("asked of one without water", Starts.DRY, -1, dry -> dry.ship(2, 5));
    }

    private static void counts() {
        Bounds.asked("count", Starts.RICH, 0, 17, -1, (road, what) -> road.count(what));
        Bounds.asked("count", Starts.FULL, 0, 17, -1, (road, what) -> road.count(what));
        Bounds.still("15 without a sea", Starts.NEW, -1, road -> road.count(15));
        Bounds.still("15 without a sea", Starts.NO_SEA, -1, road -> road.count(15));
        Bounds.still("14 without a sea", Starts.NEW, 0, road -> road.count(14));
        int[] rich = {5, 2, 3, 2, 3, 3, 2, 2, 2, 6, 2, 1, 2, 0, 1, 3, 777, 27};
        int[] full = {12, 3, 4, 4, 4, 6, 1, 4092, 8, 20, 10, 10, 6, 0, 2, 5, 2147483647, 400};
        int[] dry = {3, 0, 1, 0, 3, 1, 2, 0, 0, 2, 0, 0, 0, 1, 0, 1, 0, 0};
        int[] none = {0, 0, 0, 0, 0, 1, 0, 0, 0, 0, 0, 0, 0, 0, 0, -1, 6, 16};
        for (int what = 0; what <= 17; what++) {
            Road.due("count of a rich state " + what, Bounds.road(Starts.RICH).count(what), rich[what]);
            Road.due("count of a full state " + what, Bounds.road(Starts.FULL).count(what), full[what]);
            Road.due("count of a state with dry ships " + what, Bounds.road(Starts.DRY).count(what), dry[what]);
            Road.due("count without a sea " + what, Bounds.road(Starts.NO_SEA).count(what), none[what]);
        }
        Road.due("the last day", Bounds.road(Starts.LAST_DAY).count(6), 9999);
    }
}
