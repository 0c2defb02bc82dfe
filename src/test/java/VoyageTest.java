/** Promise 20: the voyage that is soonest, then least dear, then first by its going. */
public final class VoyageTest {
    public static void main(String[] args) {
        refused();
        there();
        along();
        waiting();
        coins();
        firstGoing();
        diggings();
        longOnes();
        Road.finish();
    }

    private static void due(DuneRoad road, int ship, int cell, int day, int coins, int going, int fills) {
        int[] due = {day, coins, going, fills};
        for (int what = 0; what < 4; what++) {
            Road.due("voyage " + ship + " " + cell + " " + what, road.voyage(ship, cell, what), due[what]);
        }
    }

    private static void refused() {
        Road.due("no sea", new DuneRoad().voyage(0, 0, 0), -4);
        DuneRoad road = Road.on("sea 3;ship 0 1 0;ship 0 9 0");
        Road.due("ship 2", road.voyage(2, 0, 0), -4);
        Road.due("ship -1", road.voyage(-1, 0, 0), -4);
        Road.due("cell 3", road.voyage(0, 3, 0), -4);
        Road.due("cell -1", road.voyage(0, -1, 0), -4);
        Road.due("what 4", road.voyage(0, 0, 4), -4);
        Road.due("what -1", road.voyage(0, 0, -1), -4);
        due(road, 0, 2, -3, -3, -3, -3);
        road.sail(1, 0);
        due(road, 0, 0, 1, 0, -2, 0);
        due(road, 0, 1, -3, -3, -3, -3);
        road.sail(1, 0);
        Road.due("it is dry", road.voyage(0, 0, 0), -4);
        Road.due("by what is asked nothing changes", road.count(6), 2);
    }

    private static void there() {
        DuneRoad road = Road.on("sea 3;well 1 60 5;ship 1 9 0");
        road.sail(0, 0);
        due(road, 0, 1, 1, 0, -2, 0);
    }

    private static void along() {
        DuneRoad road = Road.on("sea 5;ship 2 2 0;ground 1 1");
        due(road, 0, 4, 2, 0, 1, 0);
        // Cell 1 is too high.
        due(road, 0, 0, -3, -3, -3, -3);
        DuneRoad climbing = Road.on("sea 3;ground 1 4;ground 2 8;ship 0 2 4;ship 0 2 3;ship 0 1 4");
        due(climbing, 0, 2, 2, 0, 1, 0);
        due(climbing, 1, 1, -3, -3, -3, -3);
        // The last water is enough for one more cell.
        due(climbing, 2, 1, 1, 0, 1, 0);
        due(climbing, 2, 2, -3, -3, -3, -3);
    }

    private static void waiting() {
        DuneRoad high = Road.on("sea 2;train 1 0 00990;ground 1 5;ship 0 4 0;well 0 0 2");
        // Cell 0 on days 0 to 4: 0 0 9 9 0; cell 1 on the next days: 5 5 14 14 5. So it never can go.
        due(high, 0, 1, -3, -3, -3, -3);
        DuneRoad later = Road.on("sea 2;train 0 0 00990;ground 1 5;ship 0 4 0;ship 0 3 0;ship 0 2 0;well 0 0 2");
        // Cell 0: 0 0 9 9 0, cell 1: 5 5 14 14 5: from 9 on day 3 to 5 on day 4.
        due(later, 0, 1, 4, 0, 0, 0);
        // With 3 it must fill on day 1 (1 more); on day 2 the well is shut.
        due(later, 1, 1, 4, 2, 0, 0);
        // With 2 it has none on day 3, even so.
        due(later, 2, 1, -3, -3, -3, -3);
    }

    private static void coins() {
        // Water 2 of 4, three cells to go: it must fill: now at 5 a piece, or in the next cell at 3.
        DuneRoad road = Road.on("sea 5;well 0 9 5;well 1 9 3;ship 0 4 0");
        road.sail(0, 0);
        road.sail(0, 0);
        // 4 cells: there on day 6. Now: 2 * 5; in cell 1 water is 1: 3 * 3.
        due(road, 0, 4, 6, 9, 1, 0);
        // 2 cells: no need.
        due(road, 0, 2, 4, 0, 1, 0);
        road.sail(0, 0);
        road.sail(0, 0);
        // No water: it fills first, 4 * 5.
        due(road, 0, 4, 8, 20, 1, 1);
        // Where no well is nothing is filled: it must, in cell 1, with no water left.
        DuneRoad next = Road.on("sea 4;well 1 9 1;well 3 9 1;ship 0 3 0;ship 1 2 0");
        next.sail(0, 0);
        next.sail(0, 0);
        due(next, 0, 3, 5, 3, 1, 0);
        // Without water, at a coin each.
        due(next, 1, 3, 4, 2, 1, 1);
        DuneRoad two = Road.on("sea 3;well 0 9 5;well 0 9 2;well 0 1 1;ground 0 2;ship 0 2 0");
        two.sail(0, 0);
        two.sail(0, 0);
        // The least dear that is open.
        due(two, 0, 2, 4, 4, 1, 1);
    }

    private static void firstGoing() {
        // Cell 3 opens late, so that there is time: of all ways the one that first goes to the least cell.
        DuneRoad road = Road.on("sea 4;train 0 0 00000900;ground 3 9;ship 1 30 0");
        // From cell 2 at 9 on day 5 to cell 3 at 9 on day 6.
        due(road, 0, 3, 6, 0, -1, 0);
        due(road, 0, 2, 1, 0, 1, 0);
        // At the edge it can but stay or go on.
        DuneRoad edge = Road.on("sea 3;train 0 0 00000900;ground 2 9;ship 0 30 0");
        due(edge, 0, 2, 6, 0, 0, 0);
        // The same coins, whether it fills now or next day in the same cell: not.
        DuneRoad either = Road.on("sea 3;train 0 0 0000900;ground 2 9;well 0 0 4;ship 0 4 0");
        either.sail(0, 0);
        // Day 1, water 3; there on day 5 needs 4 days: one more, to be filled on day 1 (1 more: 4 coins), or on day 2 (2 more: 8).
        due(either, 0, 2, 5, 4, 0, 1);
    }

    private static void diggings() {
        DuneRoad road = Road.on("sea 2;ground 1 9;ship 0 9 0");
        due(road, 0, 1, -3, -3, -3, -3);
        road.dig(1, 9, 1);
        due(road, 0, 1, -3, -3, -3, -3);
        road.dig(1, 9, 2);
        due(road, 0, 1, 1, 0, 1, 0);
        road.undo();
        road.fence(1, true);
        road.fence(0, true);
        due(road, 0, 1, -3, -3, -3, -3);
        DuneRoad well = Road.on("sea 3;ground 0 2;well 0 0 3;ship 0 1 0");
        well.sail(0, 0);
        due(well, 0, 2, -3, -3, -3, -3);
        well.dig(0, 2, 1);
        due(well, 0, 1, 2, 3, 1, 1);
    }

    private static void longOnes() {
        // All cells are 9 on one day in 380, at the well one can wait.
        String sea = "sea 2;train 0 %d 0000000000000000009;train 0 0 00000000000000000009;ground 1 18;well 0 0 1;ship 0 30 0";
        // Row one has 9 on days 18 - shift mod 19, row two on days 19 mod 20.
        DuneRoad road = Road.on(String.format(sea, 14));
        // d = 4 mod 19 and 19 mod 20: 99 (99 = 5 * 19 + 4). There on day 100.
        Road.due("100", road.voyage(0, 1, 0), 100);
        Road.due("stay", road.voyage(0, 1, 2), 0);
        DuneRoad last = Road.on(String.format(sea, 4));
        // d = 14 mod 19 and 19 mod 20: 299 = 15 * 19 + 14.
        Road.due("300 days are not too many", last.voyage(0, 1, 0), 300);
        DuneRoad beyond = Road.on(String.format(sea, 22));
        // d = 15 mod 19 (3 is the shift): 319 = 16 * 19 + 15.
        // d = 300 is 15 mod 19, and 0 mod 20.
        String one = "sea 2;train 0 4 0000000000000000009;train 0 19 00000000000000000009;ground 1 18;well 0 0 1;ship 0 30 0";
        Road.due("301 are", Road.on(one.replace("train 0 4", "train 0 3")).voyage(0, 1, 0), -3);
        DuneRoad soon = Road.on(one.replace("train 0 4", "train 0 3"));
        soon.sail(0, 0);
        Road.due("300 from day 1 on", soon.voyage(0, 1, 0), 301);
        Road.due("320 are", Road.on(String.format(sea, 3)).voyage(0, 1, 0), -3);
        Road.due("a shift above the period", beyond.voyage(0, 1, 0), -3);
    }
}
