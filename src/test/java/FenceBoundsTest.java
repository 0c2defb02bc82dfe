/** The boundaries of promise 21 (fences). */
public final class FenceBoundsTest {
    public static void main(String[] args) {
        whichPlaces();
        placesThatAreNot();
        noPlaces();
        fromAndTo();
        thirtyDays();
        what();
        canNotBe();
        justOpen();
        fewest();
        leastAsBits();
        oneInACellThatHasNone();
        whose();
        noDiggings();
        Road.finish();
    }

    private static Bounds.Start on(String sea) {
        return road -> {
            Road.feed(road, sea);
            road.sea();
        };
    }

    private static void due(String what, DuneRoad road, int places, int few, int set, int whose) {
        due(what, road, places, 0, 0, few, set, whose);
    }

    private static void due(String what, DuneRoad road, int places, int from, int to, int few, int set, int whose) {
        int[] due = {few, set, whose};
        for (int i = 0; i < 3; i++) {
            Road.due(what + ", what " + i, road.fences(places, from, to, i), due[i]);
        }
    }

    private static final String EIGHT = "sea 12;well 0 60 1;well 1 60 1;well 2 60 1;well 3 60 1;town 4 60 1;town 5 60 1;town 6 60 1;town 7 60 1";

    private static void whichPlaces() {
        Bounds.asked("fences for places", on(EIGHT), 0, 255, -1, (road, places) -> road.fences(places, 0, 0, 0));
        for (int place = 0; place < 8; place++) {
            Road.due("place " + place, Road.on(EIGHT).fences(1 << place, 0, 29, 0), 0);
        }
        for (int bit = 8; bit < 32; bit++) {
            int places = 1 << bit;
            Bounds.still("bit " + bit, Starts.FULL, -1, road -> road.fences(places, 0, 0, 0));
            Bounds.still("bit " + bit + " and one that is", Starts.FULL, -1, road -> road.fences(places | 1, 0, 0, 0));
        }
    }

    /** Three wells and two towns are there. */
    private static void placesThatAreNot() {
        for (int places = 0; places < 256; places++) {
            boolean are = (places & ~0b110111) == 0;
            Road.due("places " + places, Bounds.road(Starts.RICH).fences(places, 0, 0, 0) != -1, are);
        }
        Bounds.still("well 3", Starts.RICH, -1, road -> road.fences(8, 0, 0, 0));
        Bounds.still("town 2", Starts.RICH, -1, road -> road.fences(64, 0, 0, 0));
        Bounds.still("town 3 and those that are", Starts.RICH, -1, road -> road.fences(0b10110111, 0, 0, 0));
        Bounds.still("no places at all", on("sea 2"), -1, road -> road.fences(1, 0, 0, 0));
    }

    private static void noPlaces() {
        due("none asked for", Bounds.road(Starts.RICH), 0, 0, 0, 0);
        due("none asked for, none there", Road.on("sea 2"), 0, 0, 0, 0);
        Bounds.still("no sea", Starts.NEW, -1, road -> road.fences(0, 0, 0, 0));
        Bounds.still("no sea", Starts.NO_SEA, -1, road -> road.fences(0, 0, 0, 1));
    }

    private static void fromAndTo() {
        Bounds.asked("fences from day, to the same", Starts.RICH, 0, 9999, -1, (road, day) -> road.fences(4, day, day, 0));
        Bounds.asked("fences to day", Starts.RICH, 50, 79, -1, (road, to) -> road.fences(4, 50, to, 0));
        Bounds.asked("fences from day", Starts.RICH, 21, 50, -1, (road, from) -> road.fences(4, from, 50, 0));
        Bounds.asked("fences to the last day", Starts.RICH, 9970, 9999, -1, (road, from) -> road.fences(4, from, 9999, 0));
        Bounds.asked("fences from the last day", Starts.RICH, 9999, 9999, -1, (road, to) -> road.fences(4, 9999, to, 0));
        Bounds.asked("fences from the first day", Starts.RICH, 0, 29, -1, (road, to) -> road.fences(4, 0, to, 0));
        Bounds.still("beyond the last day", Starts.RICH, -1, road -> road.fences(4, 9999, 10000, 0));
        Bounds.still("ahead of the first day", Starts.RICH, -1, road -> road.fences(4, -1, 0, 0));
        Bounds.still("the least and the greatest number", Starts.RICH, -1, road -> road.fences(4, Integer.MIN_VALUE, Integer.MAX_VALUE, 0));
        Bounds.still("the greatest and the least number", Starts.RICH, -1, road -> road.fences(4, Integer.MAX_VALUE, Integer.MIN_VALUE, 0));
    }

    /** All of these days count, the first and the last of thirty, too, and none beside them. */
    private static void thirtyDays() {
        // Row one is 9 on days 4 mod 19, row two on days 4 mod 20: both on day 384, and next on day 764.
        DuneRoad road = Road.on("sea 2;train 0 14 0000000000000000009;train 0 15 00000000000000000009;town 0 14 1;well 0 17 1;well 0 15 1");
        due("the last of the days", road, 16, 355, 384, -2, -2, -2);
        due("a day ahead of it", road, 16, 354, 383, 0, 0, 0);
        due("the first of the days", road, 16, 384, 413, -2, -2, -2);
        due("a day behind it", road, 16, 385, 414, 0, 0, 0);
        due("one by a fence", road, 1, 384, 384, 1, 1, 0);
        due("just so by a fence", road, 2, 355, 384, 1, 1, 0);
    }

    private static void what() {
        Bounds.asked("fences what", Starts.RICH, 0, 2, -1, (road, what) -> road.fences(4, 0, 0, what));
        Bounds.asked("fences what, where it can't be", on("sea 2;ground 0 9;well 0 0 1"), 0, 2, -1, (road, what) -> road.fences(1, 0, 0, what));
        Bounds.still("nothing is right", Starts.RICH, -1, road -> road.fences(256, 5, 4, 3));
    }

    private static void canNotBe() {
        for (int limit = 0; limit <= 12; limit++) {
            DuneRoad road = Road.on("sea 3;ground 1 12;well 1 " + limit + " 1;town 2 3 1;town 2 2 1");
            if (limit == 12) {
                due("12 of 12", road, 1, 0, 0, 0);
            } else if (limit >= 9) {
                // Cell 2 gets 3 more.
                due("12 by a fence of " + limit, road, 1, 1, 2, 32);
            } else {
                due("12 of " + limit, road, 1, -2, -2, -2);
            }
        }
        // By one for cell 0 the other one is shut, by one for that it is as it was: two of 3 less can't be.
        DuneRoad beside = Road.on("sea 2;ground 0 3;ground 1 3;well 0 0 1;well 1 0 1;well 1 3 1");
        due("each alone", beside, 1, 1, 1, 4);
        due("each alone", beside, 2, 1, 2, 0);
        due("both", beside, 3, -2, -2, -2);
        due("both, one of them as it was", beside, 5, 2, 3, 0);
    }

    /** Just open is open: none is needed; 0 at least counts, too. */
    private static void justOpen() {
        for (int limit = 0; limit <= 4; limit++) {
            for (int ground = 0; ground <= 8; ground++) {
                DuneRoad road = Road.on("sea 2;ground 0 " + ground + ";well 0 " + limit + " 1");
                int few = ground <= limit ? 0 : ground - 3 <= limit ? 1 : -2;
                due("sand of " + ground + ", depth of " + limit, road, 1, few, few, few == -2 ? -2 : 0);
            }
        }
        // A fence ahead of it, and sand of 0: 3 is too much for a depth of 2.
        for (int limit = 0; limit <= 3; limit++) {
            DuneRoad road = Road.on("sea 2;ground 0 3;well 0 0 1;town 1 " + limit + " 1");
            due("town of " + limit + " behind a fence", road, 1, 1, 1, limit < 3 ? 16 : 0);
            due("both", road, 17, limit < 3 ? 2 : 1, limit < 3 ? 3 : 1, 0);
        }
    }

    private static void fewest() {
        // Eight cells in a row, each a well's or a town's: the first one needs 3 less, and none may be higher.
        StringBuilder sea = new StringBuilder("sea 8");
        for (int cell = 0; cell < 8; cell++) {
            sea.append(";ground ").append(cell).append(" 3;").append(cell < 4 ? "well " : "town ").append(cell).append(cell == 0 ? " 0 1" : " 3 1");
        }
        DuneRoad road = Road.on(sea.toString());
        due("one", road, 1, 1, 1, 2);
        due("two", road, 3, 2, 3, 4);
        due("all eight", road, 255, 8, 255, 0);
        due("none", road, 254, 0, 0, 0);
        due("first and last", road, 129, 1, 1, 2);
    }

    private static void leastAsBits() {
        // Cells 0 and 3 need one each, cell 1 may rise.
        DuneRoad road = Road.on("sea 4;ground 0 3;ground 3 3;well 0 0 1;well 3 0 1;town 1 3 1");
        due("cells 0 and 3", road, 3, 2, 9, 0);
        due("cell 3 alone", road, 2, 1, 8, 0);
        // The last of twelve cells.
        DuneRoad last = Road.on("sea 12;ground 11 3;well 11 0 1");
        due("cell 11", last, 1, 1, 2048, 0);
        last.fence(10, true);
        // Cell 11 is 6 by the fence ahead of it: one there leaves 3.
        due("cell 11 behind a fence", last, 1, -2, -2, -2);
    }

    private static void oneInACellThatHasNone() {
        DuneRoad road = Road.on("sea 3;ground 0 6;ground 1 3;well 0 0 1;well 1 3 1;town 1 0 1");
        road.fence(0, true);
        due("one is there already", road, 1, -2, -2, -2);
        due("cell 1 behind it needs one", road, 2, 1, 2, 0);
        due("cell 1 by 3 less", road, 16, -2, -2, -2);
        road.fence(1, true);
        due("both there: open", road, 2, 0, 0, 0);
        Road.due("none was put up", road.count(7), 3);
        DuneRoad all = Road.on("sea 2;ground 0 4;well 0 0 1");
        all.fence(0, true);
        all.fence(1, true);
        due("no cell has none", all, 1, -2, -2, -2);
        due("no place needs one", all, 0, 0, 0, 0);
    }

    /** Open on fewer of these days with the fences than without, of all places: also of those not asked for. */
    private static void whose() {
        // Cell 1 goes by 0 to 4, with the fence by 3 to 7: of the five days one of 7 is open on all, one of 6 on four,
        // one of 0 on none, one of 3 on one, one of 4 on two.
        String sea = "sea 2;train 0 0 01234;ground 0 3;well 0 4 1;well 1 7 1;well 1 6 1;well 1 0 1;town 1 3 1;town 1 4 1;town 0 2 1;town 0 7 1";
        DuneRoad road = Road.on(sea);
        due("five days", road, 1, 0, 4, 1, 1, 0b00111100);
        // On day 2 alone: 2 of cell 1 is 5.
        due("day 2", road, 1, 2, 2, 1, 1, 0b00110000);
        // On day 0 none is needed.
        due("day 0", road, 1, 0, 0, 0, 0, 0);
        // On day 4: 4 is 7.
        due("day 4", road, 1, 4, 4, 1, 1, 0b00100100);
        due("none is asked for", road, 0, 0, 4, 0, 0, 0);
    }

    private static void noDiggings() {
        DuneRoad road = Road.on("sea 2;ground 0 3;well 0 0 1;town 1 0 1;ship 1 9 0");
        road.dig(0, 3, 30);
        Road.due("open now", road.place(0, 3), 1);
        due("as without the digging", road, 1, 1, 1, 16);
        road.dig(1, 3, 30);
        due("whose, as without the digging", road, 1, 1, 1, 16);
    }
}
