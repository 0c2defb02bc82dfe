/** Promises 6 to 9 and 34: heights, trains, places, ships, counts. */
public final class AskingTest {
    public static void main(String[] args) {
        heights();
        fencesAndDiggings();
        trains();
        places();
        ships();
        counts();
        Road.finish();
    }

    private static void heights() {
        DuneRoad road = Road.on("sea 4;train 2 3 0123456;train 1 0 90;ground 1 5;ground 3 20");
        // Cell 0, day 0: row one at 3, row two at 0.
        Road.due("height 0 0", road.height(0, 0), 3 + 9);
        // Cell 1, day 0: row one at 1, row two at -1, that is 1.
        Road.due("height 1 0", road.height(1, 0), 5 + 1 + 0);
        // Cell 3, day 0: row one at -3, that is 4, row two at -3, that is 1.
        Road.due("height 3 0", road.height(3, 0), 20 + 4 + 0);
        // Cell 2, day 99999: 99999 + 3 - 4 = 99998 = 7 * 14285 + 3; 99997 is odd.
        Road.due("height 2 99999", road.height(2, 99999), 3 + 0);
        Road.due("day 100000", road.height(2, 100000), -1);
        Road.due("day -1", road.height(2, -1), -1);
        Road.due("cell 4", road.height(4, 0), -1);
        Road.due("cell -1", road.height(-1, 0), -1);
        Road.due("no sea", new DuneRoad().height(0, 0), -1);
        DuneRoad far = Road.on("sea 12;train 9 0 01234567890123456789");
        // 0 - 99 mod 20 is 1.
        Road.due("far back", far.height(11, 0), 1);
    }

    private static void fencesAndDiggings() {
        DuneRoad road = Road.on("sea 4;ground 0 2;ground 1 5;ground 2 5;ground 3 5;ship 0 9 0");
        road.fence(0, true);
        Road.due("0 at least", road.height(0, 0), 0);
        Road.due("3 more behind it", road.height(1, 0), 8);
        Road.due("further not", road.height(2, 0), 5);
        road.fence(1, true);
        Road.due("3 less and 3 more", road.height(1, 0), 5);
        road.fence(3, true);
        Road.due("the last", road.height(3, 0), 2);
        Road.due("dig", road.dig(2, 4, 2), 4);
        Road.due("dig more", road.dig(2, 1, 1), 3);
        Road.due("the day behind it", road.height(2, 1), 4);
        Road.due("two days behind it", road.height(2, 2), 8);
        Road.due("elsewhere", road.height(1, 0), 5);
        road.sail(0, 0);
        Road.due("over, so on no day", road.height(2, 0), 4);
        Road.due("one lasts", road.count(8), 1);
        road.sail(0, 0);
        Road.due("both over", road.height(2, 0), 8);
        Road.due("none lasts", road.count(8), 0);
        road.dig(2, 2, 5);
        Road.due("not ahead of it", road.height(2, 1), 8);
        Road.due("from now on", road.height(2, 2), 6);
        Road.due("its last day", road.height(2, 6), 6);
        Road.due("behind", road.height(2, 7), 8);
    }

    private static void trains() {
        DuneRoad road = Road.on("sea 2;train 9 29 01;train 4 17 31415926535897932384");
        Road.due("lag", road.train(0, 0), 9);
        Road.due("shift as told", road.train(0, 1), 29);
        Road.due("period", road.train(0, 2), 2);
        Road.due("greatest", road.train(0, 3), 1);
        Road.due("second", road.train(1, 0), 4);
        Road.due("period", road.train(1, 2), 20);
        Road.due("greatest", road.train(1, 3), 9);
        Road.due("first place", road.train(1, 100), 3);
        Road.due("last place", road.train(1, 119), 4);
        Road.due("beyond", road.train(1, 120), -1);
        Road.due("99", road.train(1, 99), -1);
        Road.due("4", road.train(1, 4), -1);
        Road.due("-1", road.train(1, -1), -1);
        Road.due("least", road.train(1, Integer.MIN_VALUE), -1);
        Road.due("most", road.train(1, Integer.MAX_VALUE), -1);
        Road.due("train 2", road.train(2, 0), -1);
        Road.due("train -1", road.train(-1, 0), -1);
    }

    private static void places() {
        DuneRoad road = Road.on("sea 3;train 1 0 05;well 1 4 7;well 2 0 9;town 2 60 11;ship 0 9 0");
        int[][] due = {{0, 1, 4, 7, 0}, {1, 2, 0, 9, 1}, {4, 2, 60, 11, 1}};
        for (int[] row : due) {
            for (int what = 0; what < 4; what++) {
                Road.due("place " + row[0] + " " + what, road.place(row[0], what), row[what + 1]);
            }
            Road.due("what 4", road.place(row[0], 4), -1);
            Road.due("what -1", road.place(row[0], -1), -1);
        }
        for (int place : new int[] {-1, 2, 3, 5, 6, 7, 8, 9, Integer.MAX_VALUE, Integer.MIN_VALUE}) {
            Road.due("place " + place, road.place(place, 0), -1);
        }
        road.dig(1, 1, 1);
        Road.due("open by a digging", road.place(0, 3), 1);
        road.sail(0, 0);
        Road.due("open the next day", road.place(0, 3), 1);
        Road.due("the other is not", road.place(1, 3), 0);
    }

    private static void ships() {
        DuneRoad road = Road.on("sea 3;ship 2 1 20;ship 1 30 0");
        int[] due = {2, 1, 1, 20, 0, -1};
        for (int what = 0; what < 6; what++) {
            Road.due("ship 0 " + what, road.ship(0, what), due[what]);
        }
        Road.due("what 6", road.ship(0, 6), -2);
        Road.due("what -1", road.ship(0, -1), -2);
        Road.due("ship 2", road.ship(2, 0), -2);
        Road.due("ship -1", road.ship(-1, 0), -2);
        road.sail(1, 0);
        Road.due("no water yet not dry", road.ship(0, 5), -1);
        road.sail(1, 0);
        Road.due("dry on day 1", road.ship(0, 5), 1);
        Road.due("the other has 2 less", road.ship(1, 1), 28);
    }

    private static void counts() {
        DuneRoad road = Road.on("sea 5;train 0 0 12;well 0 9 1;well 1 9 1;town 0 9 1;town 0 9 1;town 0 9 1;ship 0 1 9;ship 0 9 9;storm 3 8", "go 0", "go 0");
        road.fence(4, true);
        road.fence(0, true);
        road.dig(0, 1, 1);
        road.dig(0, 1, 2);
        road.sail(1, 0);
        road.sail(1, 0);
        road.dig(0, 1, 1);
        road.sight(1, true);
        road.told(1, 1, 1);
        road.told(1, 1, 1);
        road.fleet(1, 1, 1);
        road.seed(2147483647);
        road.feed(0, 0, 0, 0, 0);
        int[] due = {5, 1, 2, 3, 2, 2, 2, 17, 1, 7, 1, 2, 1, 1, 3, 8, 2147483647, 20};
        for (int what = 0; what < due.length; what++) {
            Road.due("count " + what, road.count(what), due[what]);
        }
        Road.due("count -1", road.count(-1), -1);
        Road.due("count 18", road.count(18), -1);
        Road.due("of without a storm", Road.on("sea 2").count(15), 1);
    }
}
