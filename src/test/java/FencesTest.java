/** Promise 21: the fewest fences, the least set of them, and whose sand that is. */
public final class FencesTest {
    public static void main(String[] args) {
        refused();
        fewest();
        standing();
        days();
        whose();
        placesThatAre();
        Road.finish();
    }

    /** A text with a fault told of a well in cell 1; the sea behind it has none there. */
    private static void placesThatAre() {
        DuneRoad road = new DuneRoad();
        Road.feed(road, "sea 3;well 0 3 1;well 1 0 1;town 1 0 1;town 1 0 1;ship 3 1 1");
        Road.due("fault", road.sea(), Road.fault(55, 1));
        Road.feed(road, "sea 3;ground 0 3;well 0 0 1;town 1 0 1");
        Road.due("sea", road.sea(), 3);
        due(road, 1, 0, 9, 1, 1, 16);
        Road.due("a well that is not", road.fences(2, 0, 9, 0), -1);
        Road.due("a town that is not", road.fences(32, 0, 9, 0), -1);
    }

    private static void due(DuneRoad road, int places, int from, int to, int few, int set, int whose) {
        int[] due = {few, set, whose};
        for (int what = 0; what < 3; what++) {
            Road.due("fences " + places + " " + from + " " + to + " " + what, road.fences(places, from, to, what), due[what]);
        }
    }

    private static void none(DuneRoad road, int places, int from, int to, int what) {
        Road.due("fences " + places + " " + from + " " + to + " " + what, road.fences(places, from, to, what), -1);
    }

    private static void refused() {
        none(new DuneRoad(), 0, 0, 0, 0);
        DuneRoad road = Road.on("sea 3;well 0 0 1;town 0 0 1;town 0 0 1");
        none(road, 2, 0, 0, 0);
        none(road, 64, 0, 0, 0);
        none(Road.on("sea 3;town 0 0 1"), 1, 0, 0, 0);
        none(road, 256, 0, 0, 0);
        none(road, -1, 0, 0, 0);
        none(road, Integer.MIN_VALUE, 0, 0, 0);
        none(road, 1, 0, 0, 3);
        none(road, 1, 0, 0, -1);
        none(road, 1, 1, 0, 0);
        none(road, 1, 0, 30, 0);
        none(road, 1, -1, 0, 0);
        none(road, 1, 9999, 10000, 0);
        due(road, 1, 0, 29, 0, 0, 0);
        due(road, 49, 9970, 9999, 0, 0, 0);
        due(road, 0, 0, 0, 0, 0, 0);
    }

    private static void fewest() {
        DuneRoad road = Road.on("sea 4;ground 0 3;ground 1 5;ground 2 4;ground 3 1;well 0 0 1;well 1 2 1;well 2 1 1;well 3 3 1;town 1 5 1;town 2 4 1;town 0 2 1");
        due(road, 1, 0, 0, 1, 1, 16);
        // Cell 1 needs 3 less, so no fence ahead of it.
        due(road, 2, 0, 0, 1, 2, 32);
        due(road, 3, 0, 0, -2, -2, -2);
        // Cell 3 at 1 must stay at most at 3: with a fence in cell 2 it is 4, so it needs one, too.
        due(road, 4, 0, 0, 1, 4, 8);
        due(road, 4 + 8, 0, 0, 2, 12, 0);
        // Cell 0 less, cell 1 as it was: both.
        due(road, 1 + 16, 0, 0, 2, 3, 32);
        due(road, 1 + 16 + 32, 0, 0, 3, 7, 8);
        due(road, 1 + 8 + 16 + 32, 0, 0, 4, 15, 0);
        DuneRoad deep = Road.on("sea 2;ground 0 9;ground 1 1;well 0 5 1;well 1 1 1;well 1 0 1");
        due(deep, 1, 0, 0, -2, -2, -2);
        due(deep, 2, 0, 0, 0, 0, 0);
        due(deep, 4, 0, 0, 1, 2, 0);
    }

    private static void standing() {
        DuneRoad road = Road.on("sea 3;ground 1 4;well 1 4 1;town 2 0 1;town 1 6 1;town 0 0 1");
        road.fence(0, true);
        // Cell 1 is 7: by a fence in it 4.
        due(road, 1, 0, 0, 1, 2, 16);
        due(road, 32, 0, 0, 1, 2, 16);
        road.fence(1, true);
        due(road, 1, 0, 0, 0, 0, 0);
        // Cell 2 is 3 by the fence in cell 1.
        due(road, 16, 0, 0, 1, 4, 0);
        DuneRoad spoilt = Road.on("sea 2;ground 1 3;well 1 0 1");
        spoilt.fence(0, true);
        // None can be taken away.
        due(spoilt, 1, 0, 0, -2, -2, -2);
        DuneRoad dug = Road.on("sea 2;ground 1 3;well 1 0 1");
        dug.dig(1, 3, 30);
        due(dug, 1, 0, 0, 1, 2, 0);
    }

    private static void days() {
        DuneRoad road = Road.on("sea 2;train 0 0 0123456789;well 0 4 1");
        due(road, 1, 0, 4, 0, 0, 0);
        due(road, 1, 0, 5, 1, 1, 0);
        due(road, 1, 3, 7, 1, 1, 0);
        due(road, 1, 3, 8, -2, -2, -2);
        due(road, 1, 8, 8, -2, -2, -2);
        due(road, 1, 9990, 9994, 0, 0, 0);
        due(road, 1, 9999, 9999, -2, -2, -2);
    }

    private static void whose() {
        // Cell 1 gets 3 more: the well of 5 is open on days 0 to 2 in place of 0 to 5.
        DuneRoad road = Road.on("sea 3;train 0 0 0123456789;well 0 2 1;well 1 5 1;well 2 5 1;town 1 60 1;town 1 9 1;town 1 11 1");
        due(road, 1, 0, 5, 1, 1, 2);
        // On day 0 it is open all the same.
        due(road, 1, 0, 0, 0, 0, 0);
        due(road, 1, 3, 3, 1, 1, 2);
        due(road, 1, 4, 5, 1, 1, 2);
        DuneRoad first = Road.on("sea 2;ground 0 3;ground 1 1;well 1 3 1;town 0 0 1;town 1 4 1");
        // The town may rise by 3, the well may not.
        due(first, 16, 0, 0, 1, 1, 1);
        due(first, 16 + 32, 0, 0, 1, 1, 1);
        due(first, 1 + 16, 0, 0, 2, 3, 0);
        DuneRoad shut = Road.on("sea 2;ground 0 3;ground 1 9;well 0 0 1;well 1 5 1;town 1 9 1;town 1 12 1");
        // The well in cell 1 is open on no day, with or without.
        due(shut, 1, 0, 9, 1, 1, 16);
    }
}
