/** The boundaries of promise 20 (voyage). */
public final class VoyageBoundsTest {
    public static void main(String[] args) {
        whoWhereWhat();
        dryOnes();
        itIsThere();
        notSo();
        asHighAsItCan();
        lastWater();
        fillsWhereItMay();
        leastDearOfACell();
        cellByCell();
        fillsToItsTank();
        leastCoins();
        leastGoing();
        fillsFirst();
        threeHundredDays();
        beyondTheLastDay();
        diggingsAsTold();
        Road.finish();
    }

    private static Bounds.Start on(String sea) {
        return road -> {
            Road.feed(road, sea);
            road.sea();
        };
    }

    private static void due(String what, DuneRoad road, int ship, int cell, int... due) {
        for (int i = 0; i < 4; i++) {
            Road.due(what + ", what " + i, road.voyage(ship, cell, i), due.length == 1 ? due[0] : due[i]);
        }
    }

    private static void whoWhereWhat() {
        Bounds.asked("voyage of ship", Starts.RICH, 0, 2, -4, (road, ship) -> road.voyage(ship, 1, 0));
        Bounds.asked("voyage of four", Starts.FULL, 0, 3, -4, (road, ship) -> road.voyage(ship, 5, 1));
        Bounds.asked("voyage to cell", Starts.RICH, 0, 4, -4, (road, cell) -> road.voyage(1, cell, 0));
        Bounds.asked("voyage to cell of twelve", Starts.FULL, 0, 11, -4, (road, cell) -> road.voyage(2, cell, 2));
        Bounds.asked("voyage what", Starts.RICH, 0, 3, -4, (road, what) -> road.voyage(1, 1, what));
        Bounds.asked("voyage what, where it is", Starts.RICH, 0, 3, -4, (road, what) -> road.voyage(0, 0, what));
        Bounds.asked("voyage what, where it can't be", on("sea 2;ground 1 9;ship 0 9 0"), 0, 3, -4, (road, what) -> road.voyage(0, 1, what));
        Bounds.still("no ships", on("sea 2"), -4, road -> road.voyage(0, 0, 0));
    }

    private static void dryOnes() {
        for (int cell = 0; cell < 3; cell++) {
            for (int what = 0; what <= 3; what++) {
                int to = cell;
                int asked = what;
                Bounds.still("one that is dry", Starts.DRY, -4, road -> road.voyage(0, to, asked));
            }
        }
        DuneRoad road = Bounds.road(Starts.DRY);
        due("one without water, where it is", road, 2, 2, 2, 0, -2, 0);
        due("one without water, elsewhere", road, 2, 1, -3);
        due("one with water", road, 1, 2, 3, 0, 1, 0);
    }

    /** Where it is: today, no coins, no going, no filling. */
    private static void itIsThere() {
        DuneRoad road = Road.on("sea 3;well 1 60 9;ship 1 9 0;ship 0 9 0");
        due("on day 0", road, 0, 1, 0, 0, -2, 0);
        road.sail(0, 0);
        due("on day 1, with less water at a well", road, 0, 1, 1, 0, -2, 0);
        due("the other one", road, 1, 0, 1, 0, -2, 0);
    }

    private static void notSo() {
        DuneRoad road = Road.on("sea 4;ground 1 5;ship 0 9 4;ship 0 9 5;ship 3 9 0");
        due("too high", road, 0, 1, -3);
        due("what lies behind it", road, 0, 3, -3);
        due("high enough", road, 1, 1, 1, 0, 1, 0);
        due("on the other side", road, 2, 2, 1, 0, -1, 0);
        due("from the other side", road, 2, 1, -3);
    }

    /** By the height of the next DAY there and its own now. */
    private static void asHighAsItCan() {
        DuneRoad wave = Road.on("sea 2;train 0 0 0012;ground 1 1;ship 0 9 0");
        // Cell 0 on days 0 to 3: 0, 0, 1, 2; cell 1: 1, 1, 2, 3, then 1 again: from 2 on day 3 to 1 on day 4.
        due("when it falls", wave, 0, 1, 4, 0, 0, 0);
        DuneRoad edge = Road.on("sea 2;train 0 0 0012;ground 1 2;ship 0 9 0;ship 0 9 20");
        due("just as high", edge, 0, 1, 4, 0, 0, 0);
        due("at once", edge, 1, 1, 1, 0, 1, 0);
        DuneRoad above = Road.on("sea 2;train 0 0 0012;ground 1 3;ship 0 9 0");
        due("one above", above, 0, 1, -3);
    }

    /** With so much water it can go just so far. */
    private static void lastWater() {
        for (int water = 1; water <= 11; water++) {
            DuneRoad road = Road.on("sea 12;ship 0 " + water + " 0");
            due("as far as its water", road, 0, water, water, 0, 1, 0);
            if (water < 11) {
                due("one further", road, 0, water + 1, -3);
            }
        }
    }

    private static void fillsWhereItMay() {
        // Tank 2: there is a well in cell 2, just as far as it comes.
        DuneRoad road = Road.on("sea 6;well 2 0 3;ship 0 2 0");
        due("to the well", road, 0, 2, 2, 0, 1, 0);
        due("by the well", road, 0, 4, 4, 6, 1, 0);
        due("beyond", road, 0, 5, -3);
        DuneRoad shut = Road.on("sea 6;ground 2 1;ground 0 1;ground 1 1;well 2 0 3;ship 0 2 0");
        due("the well is shut", shut, 0, 2, 2, 0, 1, 0);
        due("beyond it", shut, 0, 3, -3);
        // Open on even days: it is there on day 2.
        DuneRoad even = Road.on("sea 6;train 0 0 01;well 2 0 3;ship 0 2 1");
        due("open then", even, 0, 4, 4, 6, 1, 0);
        DuneRoad odd = Road.on("sea 6;train 0 0 10;well 2 0 3;ship 0 2 1");
        due("shut then", odd, 0, 4, -3);
        // To its tank alone: one that is full pays nothing and has no more.
        DuneRoad full = Road.on("sea 4;well 0 60 9;ship 0 2 0");
        due("a full tank", full, 0, 2, 2, 0, 1, 0);
        due("is no more", full, 0, 3, -3);
        // Without water it fills and goes on.
        full.sail(0, 0);
        full.sail(0, 0);
        due("no water, at a well", full, 0, 2, 4, 18, 1, 1);
        Road.due("nothing was paid", full.ship(0, 4), 0);
    }

    /** Several wells in one CELL: of those that are open the least dear, whichever was told first. */
    private static void leastDearOfACell() {
        String[] wells = {"well 0 60 2;well 0 60 7", "well 0 60 7;well 0 60 2", "well 0 60 7;well 0 60 2;well 0 60 9", "well 0 60 2;well 0 60 2",
            "well 0 1 2;well 0 0 1", "well 0 0 1;well 0 1 2"};
        for (String each : wells) {
            DuneRoad road = Road.on("sea 4;ground 0 1;" + each + ";ship 0 3 0");
            road.sail(0, 0);
            road.sail(0, 0);
            due("2 of 2 coins by " + each, road, 0, 3, 5, 4, 1, 1);
        }
    }

    /** A DAY for each CELL, on and back: with a well on the way it fills 2 of 4. */
    private static void cellByCell() {
        due("on", Road.on("sea 6;well 2 60 2;ship 0 4 0"), 0, 5, 5, 4, 1, 0);
        due("back", Road.on("sea 6;well 3 60 2;ship 5 4 0"), 0, 0, 5, 4, -1, 0);
        for (int far = 1; far <= 11; far++) {
            due("back as far as its water", Road.on("sea 12;ship " + far + " " + far + " 0"), 0, 0, far, 0, -1, 0);
        }
    }

    /** What it has behind the first filling is its TANK less 1 a DAY. */
    private static void fillsToItsTank() {
        DuneRoad road = Road.on("sea 6;well 0 60 1;well 2 60 5;ship 0 3 0");
        road.sail(0, 0);
        road.sail(0, 0);
        // 2 for 1 coin each now, then 2 for 5 each.
        due("twice", road, 0, 5, 7, 12, 1, 1);
        DuneRoad back = Road.on("sea 6;well 5 60 1;well 3 60 5;ship 5 3 0");
        back.sail(0, 0);
        back.sail(0, 0);
        due("twice on the way back", back, 0, 0, 7, 12, -1, 1);
    }

    /** The soonest first: then the least coins more. */
    private static void leastCoins() {
        // Water 1 of 3 in cell 0; wells in cells 0 (9 coins) and 1 (1 coin).
        DuneRoad road = Road.on("sea 5;well 0 60 9;well 1 60 1;ship 0 3 0");
        road.sail(0, 0);
        road.sail(0, 0);
        due("the less dear well", road, 0, 3, 5, 3, 1, 0);
        due("no filling needed", road, 0, 1, 3, 0, 1, 0);
        // Sooner is better, though dearer: by the well of 9 at once, as cell 1 is not on the way back.
        DuneRoad back = Road.on("sea 4;well 1 60 9;well 2 60 1;ship 1 2 0");
        back.sail(0, 0);
        back.sail(0, 0);
        due("at once", back, 0, 0, 3, 18, -1, 1);
        // Coins more: what was paid does not count.
        back.fill(0);
        due("paid ahead of it", back, 0, 0, 3, 0, -1, 0);
    }

    private static void leastGoing() {
        // Cell 2 opens when all is high: from cell 1 at 9 on day 3 to cell 2 at 9 on day 4.
        DuneRoad one = Road.on("sea 3;train 0 0 000900;ground 2 9;ship 1 9 0");
        due("-1 first", one, 0, 2, 4, 0, -1, 0);
        DuneRoad zero = Road.on("sea 2;train 0 0 000900;ground 1 9;ship 0 9 0");
        due("0 where -1 can't be", zero, 0, 1, 4, 0, 0, 0);
        DuneRoad two = Road.on("sea 3;train 0 0 0900;ground 2 9;ship 1 9 0");
        // On day 1 it must be in cell 1: so it stays on day 0.
        due("0 where by -1 it would be late", two, 0, 2, 2, 0, 0, 0);
        DuneRoad now = Road.on("sea 3;train 0 0 00090;ground 2 9;ship 1 9 9");
        due("1 where it must", now, 0, 2, 1, 0, 1, 0);
        // Less dear goes ahead of the least going. Six days, with a tank of 4: by cell 2 on day 2 it needs 2 more,
        // by -1 it is there on day 3, and needs 3 more.
        DuneRoad dear = Road.on("sea 4;train 0 0 0000090000;ground 3 9;well 2 60 1;ship 1 4 0");
        due("0 as it is less dear than -1", dear, 0, 3, 6, 2, 0, 0);
        DuneRoad same = Road.on("sea 4;train 0 0 0000090000;ground 3 9;well 2 60 1;ship 1 6 0");
        due("-1 as none pays", same, 0, 3, 6, 0, -1, 0);
    }

    /** As it can be either way: not. */
    private static void fillsFirst() {
        DuneRoad road = Road.on("sea 4;well 0 60 2;well 1 60 2;ship 0 4 0");
        road.sail(0, 0);
        // Water 3 of 4, three cells: no need.
        due("no need", road, 0, 3, 4, 0, 1, 0);
        road.sail(0, 0);
        // Water 2: by 2 in cell 0 for 4 coins, or by 3 in cell 1 for 6.
        due("the less dear", road, 0, 3, 5, 4, 1, 1);
        DuneRoad even = Road.on("sea 4;well 0 60 3;well 1 60 2;ship 0 4 0");
        even.sail(0, 0);
        even.sail(0, 0);
        // Now for 6, then for 6: so not now.
        due("either way", even, 0, 3, 5, 6, 1, 0);
        DuneRoad full = Road.on("sea 4;well 0 60 3;ship 0 4 0");
        due("a full tank for no coins: not", full, 0, 3, 3, 0, 1, 0);
    }

    /** Both trains of the row are 9 on one day in 380; cell 1 is 18 higher, and from 18 on that day it can go to it. */
    private static DuneRoad waiting(int day) {
        String sea = "sea 2;train 0 %d 9000000000000000000;train 0 %d 90000000000000000000;ground 1 18;well 0 0 1;ship 0 30 0";
        return Road.on(String.format(sea, (380 - day) % 19, (400 - day) % 20));
    }

    private static void threeHundredDays() {
        Road.due("from day 298 to 299", waiting(298).voyage(0, 1, 0), 299);
        Road.due("from day 299 to 300", waiting(299).voyage(0, 1, 0), 300);
        Road.due("its going", waiting(299).voyage(0, 1, 2), 0);
        due("from day 300 to 301", waiting(300), 0, 1, -3);
        DuneRoad later = waiting(300);
        later.sail(0, 0);
        Road.due("300 from day 1 on", later.voyage(0, 1, 0), 301);
        DuneRoad before = waiting(301);
        before.sail(0, 0);
        due("301 from day 1 on", before, 0, 1, -3);
    }

    private static void beyondTheLastDay() {
        DuneRoad road = Bounds.road(Starts.LAST_DAY);
        due("where it is", road, 0, 0, 9999, 0, -2, 0);
        // Cell 1 on day 10000: 9999 is 3 in its row, less a digging.
        due("the day behind the last", road, 0, 1, 10000, 0, 1, 0);
        due("three cells on", road, 0, 3, 10002, 0, 1, 0);
        Bounds.still("and it is still the last day", Starts.LAST_DAY, 10002, start -> start.voyage(0, 3, 0));
    }

    private static void diggingsAsTold() {
        for (int days = 1; days <= 3; days++) {
            DuneRoad road = Road.on("sea 3;ground 1 9;ground 2 9;ship 0 9 0");
            road.dig(1, 9, days);
            road.dig(2, 9, days);
            if (days == 1) {
                due("for this day alone", road, 0, 1, -3);
            } else {
                due("for the next day, too", road, 0, 1, 1, 0, 1, 0);
            }
            if (days == 2) {
                // In cell 1 on day 1 it is in a hole; on day 2 that is filled up, so it is there on day 3.
                due("it goes on when it is as high", road, 0, 2, 3, 0, 1, 0);
            }
            if (days == 3) {
                due("for two days more", road, 0, 2, 2, 0, 1, 0);
            }
        }
        // Dug open for a day: the well.
        DuneRoad well = Road.on("sea 3;ground 0 1;well 0 0 3;ship 0 1 0");
        well.sail(0, 0);
        due("the well is shut", well, 0, 1, -3);
        well.dig(0, 1, 1);
        due("the well is open today", well, 0, 1, 2, 3, 1, 1);
    }
}
