/** The boundaries of promise 15 (run), of BY A RULE (terms II) and of what a RULE's words and signs mean (terms I). */
public final class RunBoundsTest {
    public static void main(String[] args) {
        whichRule();
        howManyDays();
        upToTheLastDay();
        nothingToUndo();
        withoutShips();
        wayOfTheSum();
        firstGoThatHolds();
        someFillThatHolds();
        fillsIfItCan();
        eachAtItsWell();
        dryShips();
        divisions();
        roundIn64Bits();
        comparisons();
        cellsThatAreNot();
        wellsThatAreNot();
        Road.finish();
    }

    private static void whichRule() {
        Bounds.taken("run by rule", Starts.RICH, 0, 2, -1, (road, rule) -> road.run(rule, 1));
        Bounds.taken("run by rule of six", Starts.FULL, 0, 5, -1, (road, rule) -> road.run(rule, 1));
        Bounds.still("no rules", road -> {
            Road.feed(road, "sea 2;ship 0 9 0");
            road.sea();
        }, -1, road -> road.run(0, 1));
        Bounds.still("a rule but no sea", Starts.NO_SEA, -1, road -> road.run(0, 1));
    }

    private static void howManyDays() {
        Bounds.taken("run for days", Starts.RICH, 1, 100, -1, (road, n) -> road.run(0, n));
        Road.due("one day", Bounds.road(Starts.RICH).run(0, 1), 3);
        Road.due("a hundred days", Bounds.road(Starts.RICH).run(0, 100), 102);
        Bounds.same("a hundred days are as many as a hundred times one", road -> {
            Starts.RICH.on(road);
            road.run(0, 100);
        }, road -> {
            Starts.RICH.on(road);
            for (int i = 0; i < 100; i++) {
                road.run(0, 1);
            }
        });
    }

    private static void upToTheLastDay() {
        Road.due("to day 9999", Bounds.road(Starts.LAST_BUT_ONE).run(0, 1), 9999);
        Bounds.still("to day 10000", Starts.LAST_BUT_ONE, -1, road -> road.run(0, 2));
        Bounds.still("from day 9999 on", Starts.LAST_DAY, -1, road -> road.run(0, 1));
        Bounds.still("a hundred from day 9999 on", Starts.LAST_DAY, -1, road -> road.run(0, 100));
        DuneRoad road = Road.on("sea 2", "go 1");
        for (int i = 0; i < 99; i++) {
            road.run(0, 100);
        }
        Road.due("to 10000 by a hundred", road.run(0, 100), -1);
        Road.due("it is day 9900", road.count(6), 9900);
        Road.due("to 9999 by 99", road.run(0, 99), 9999);
    }

    /** What was done ahead of it can't be undone; where it is refused it can. */
    private static void nothingToUndo() {
        DuneRoad road = Bounds.road(Starts.RICH);
        Road.due("acts", road.count(9), 6);
        Road.due("refused", road.run(0, 101), -1);
        Road.due("acts", road.count(9), 6);
        Road.due("a day", road.run(0, 1), 3);
        Road.due("none", road.count(9), 0);
        Road.due("none", road.undo(), -2);
        Road.due("an act behind it", road.fence(0, true), true);
        Road.due("that one can", road.undo(), 0);
        Road.due("no more", road.undo(), -2);
        Road.due("day", road.count(6), 3);
    }

    private static void withoutShips() {
        DuneRoad road = Road.on("sea 2", "go 1");
        Road.due("a day for no ship", road.run(0, 1), 1);
        DuneRoad dry = Road.on("sea 2;ship 0 1 0", "go 1");
        Road.due("days for one that is dry", dry.run(0, 100), 100);
        Road.due("dry since", dry.ship(0, 5), 1);
        Road.due("it went by its last water", dry.ship(0, 0), 1);
    }

    /** Where a ship in the middle of five cells is behind a day. */
    private static int cellBy(String rule) {
        DuneRoad road = Road.on("sea 5;ship 2 9 0", rule);
        Road.due("a day", road.run(0, 1), 1);
        Road.due("one less", road.ship(0, 1), 8);
        return road.ship(0, 0);
    }

    private static void wayOfTheSum() {
        Road.due("1", cellBy("go 1"), 3);
        Road.due("-1", cellBy("go 0-1"), 1);
        Road.due("0", cellBy("go 0"), 2);
        Road.due("2", cellBy("go 2"), 2);
        Road.due("-2", cellBy("go 0-2"), 2);
        Road.due("2 to the 32nd and 1", cellBy("go 65536*65536+1"), 2);
        Road.due("2 to the 32nd less 1", cellBy("go 65536*65536-1"), 2);
        Road.due("256 and 1", cellBy("go 257"), 2);
        Road.due("round in 64 bits to 1", cellBy("go 65536*65536*65536*65536+1"), 3);
        Road.due("round in 64 bits to -1", cellBy("go 65536*65536*65536*65536-1"), 1);
        // It can't: too high, no cell, no water.
        DuneRoad high = Road.on("sea 3;ground 0 1;ground 2 1;ship 1 9 0;ship 0 9 0;ship 2 9 0", "go 1", "go 0-1");
        high.run(0, 1);
        Road.due("too high", high.ship(0, 0), 1);
        Road.due("down", high.ship(1, 0), 1);
        Road.due("no cell", high.ship(2, 0), 2);
        high.run(1, 1);
        Road.due("too high", high.ship(0, 0), 1);
        Road.due("too high", high.ship(1, 0), 1);
        Road.due("down", high.ship(2, 0), 1);
        DuneRoad none = Road.on("sea 3;ship 0 1 0;ship 0 2 0", "go 1");
        none.run(0, 2);
        Road.due("no water to go", none.ship(0, 0), 1);
        Road.due("dry", none.ship(0, 5), 1);
        Road.due("its last water", none.ship(1, 0), 2);
        Road.due("not dry", none.ship(1, 5), -1);
    }

    private static void firstGoThatHolds() {
        Road.due("without a test", cellBy("go 1;go 0-1"), 3);
        Road.due("the first that holds", cellBy("go 1 if 1=2;go 0-1 if 1=1;go 1"), 1);
        Road.due("a sum of 0 is one, too", cellBy("go 0;go 1"), 2);
        Road.due("a sum of 2 is one, too", cellBy("go 2 if 1=1;go 1"), 2);
        Road.due("none that holds", cellBy("go 1 if 1=2;go 0-1 if 2=1"), 2);
        Road.due("no go at all", cellBy("fill 1=1"), 2);
        Road.due("the twelfth", cellBy("go 1 if 1=2" + ";fill 1=1".repeat(10) + ";go 0-1"), 1);
        // The first that it can't go by is the one that counts.
        DuneRoad edge = Road.on("sea 2;ship 1 9 0", "go 1;go 0-1");
        edge.run(0, 1);
        Road.due("it stays", edge.ship(0, 0), 1);
    }

    /** Coins that a ship with one water less pays by a rule at a well of 1. */
    private static int coinsBy(String rule) {
        DuneRoad road = Road.on("sea 3;well 0 60 1;well 0 60 2;ship 0 9 0", rule);
        road.sail(0, 0);
        road.run(0, 1);
        return road.ship(0, 4);
    }

    private static boolean holds(String test) {
        return coinsBy("fill " + test) == 1;
    }

    private static void yes(String test) {
        Road.due("'" + test + "' holds", holds(test), true);
    }

    private static void no(String test) {
        Road.due("'" + test + "' holds", holds(test), false);
    }

    private static void someFillThatHolds() {
        Road.due("the first", coinsBy("fill 1=1;fill 1=2"), 1);
        Road.due("the last", coinsBy("fill 1=2;go 0;fill 1=1"), 1);
        Road.due("both: once", coinsBy("fill 1=1;fill 1=1"), 1);
        Road.due("none", coinsBy("fill 1=2;fill 2=1;go 0"), 0);
        Road.due("the twelfth", coinsBy("fill 1=2" + ";fill 1=2".repeat(10) + ";fill 1=1"), 1);
        Road.due("no fill at all", coinsBy("go 0"), 0);
    }

    private static void fillsIfItCan() {
        DuneRoad road = Road.on("sea 3;train 0 0 01;well 0 0 5;ship 0 9 20;ship 1 9 20", "fill 1=1");
        Road.due("days", road.run(0, 2), 2);
        Road.due("it was full on day 0, and on day 1 it was shut", road.ship(0, 4), 0);
        Road.due("one more day", road.run(0, 1), 3);
        Road.due("open on day 2", road.ship(0, 4), 10);
        Road.due("filled ahead of the day", road.ship(0, 1), 8);
        Road.due("no well there", road.ship(1, 4), 0);
        Road.due("no well there", road.ship(1, 1), 6);
        // It fills first, so that it has water to go.
        DuneRoad last = Road.on("sea 2;well 0 0 5;ship 0 1 0", "fill water=0;go 1 if water=1 and day>0 and paid=5");
        last.run(0, 1);
        Road.due("none left", last.ship(0, 1), 0);
        last.run(0, 1);
        Road.due("filled and gone", last.ship(0, 0), 1);
        Road.due("not dry", last.count(13), 0);
    }

    /** Each SHIP FILLS at the WELL of its own CELL, whatever the numbers of both are. */
    private static void eachAtItsWell() {
        DuneRoad road = Road.on("sea 4;well 3 60 2;well 0 60 7;well 1 60 5;well 2 60 3;ship 0 9 0;ship 1 8 0;ship 2 7 0;ship 3 6 0", "fill day=2");
        road.run(0, 2);
        int[] prices = {7, 5, 3, 2};
        for (int ship = 0; ship < 4; ship++) {
            Road.due("nothing paid by ship " + ship + " yet", road.ship(ship, 4), 0);
            Road.due("water of ship " + ship, road.ship(ship, 1), 7 - ship);
        }
        road.run(0, 1);
        for (int ship = 0; ship < 4; ship++) {
            Road.due("coins of ship " + ship, road.ship(ship, 4), 2 * prices[ship]);
            Road.due("water of ship " + ship, road.ship(ship, 1), 8 - ship);
        }
    }

    private static void dryShips() {
        DuneRoad road = Bounds.road(Starts.DRY);
        road.run(0, 1);
        Road.due("one that is dry does not fill", road.ship(0, 4), 0);
        Road.due("nor go", road.ship(0, 0), 0);
        Road.due("the next one goes", road.ship(1, 0), 2);
        Road.due("one without water is dry then", road.ship(2, 5), 2);
        Road.due("and it stays", road.ship(2, 0), 2);
        Road.due("two", road.count(13), 2);
    }

    /** / towards 0, % its rest, both 0 by 0. A term is below 0 only by going round in 64 bits. */
    private static void divisions() {
        yes("7/2=3 and 7%2=1");
        yes("9/10=0 and 9%10=9");
        yes("10/10=1 and 10%10=0");
        yes("5/0=0");
        yes("5%0=0");
        yes("0/0=0");
        yes("0%0=0");
        yes("1+5/0*9=1");
        yes("1+5%0+2=3");
        // -2 to the 48th, of which 3 leaves a rest of -1.
        String below = "65535*65536*65536*65536";
        yes(below + "=0-65536*65536*65536");
        yes(below + "/3*3=1-65536*65536*65536");
        yes(below + "%3=0-1");
        yes(below + "/0=0");
        yes(below + "%0=0");
        // The least number there is.
        String least = "65536*65536*65536*32768";
        yes(least + "/65536/65536/65536=0-32768");
        yes(least + "%10=0-8");
        yes(least + "/10*10=" + least + "+8");
        yes(least + "/1=" + least);
    }

    private static void roundIn64Bits() {
        String least = "65536*65536*65536*32768";
        yes(least + "<0");
        yes(least + "-1>0");
        yes(least + "-1+1=" + least);
        yes(least + "+" + least + "=0");
        yes(least + "*2=0");
        yes("0-" + least + "=" + least);
        yes("65536*65536*65536*65536=0");
        no("65536*65536=0");
        no("65536*32768<0");
        yes("65536*32768>99999");
    }

    private static void comparisons() {
        yes("1<2");
        no("2<2");
        no("3<2");
        yes("1<=2");
        yes("2<=2");
        no("3<=2");
        no("1=2");
        yes("2=2");
        no("3=2");
        no("1>=2");
        yes("2>=2");
        yes("3>=2");
        no("1>2");
        no("2>2");
        yes("3>2");
        yes("not 1=2");
        no("not 1=1");
        yes("1=2 or 1=1");
        no("1=2 or 2=1");
        yes("1=1 and 2=2");
        no("1=1 and 1=2");
        yes("1=1 or 1=1 and 1=2");
        no("[1=1 or 1=1] and 1=2");
        yes("1=1 or [1=2]");
        no("1=2 and [1=1]");
        no("1=2 or [1=1 and 1=2]");
        yes("1=1 and [1=2 or 1=1]");
        yes("1=1 or 1=2 and [1=2]");
        no("1=1 and 1=2 or [1=2 and 1=1]");
        yes("[1=2] or [1=2] or [1=1]");
        no("[1=1] and [1=1] and [1=2]");
        no("1=2 and not 1=2");
        yes("1=1 or not 1=1");
        yes("not 1=2 or 1=1");
        no("not [1=2 or 1=1]");
        yes("[[[[[[[[[[1=1]]]]]]]]]]");
        yes("not not not not not not not not not not 1=1");
        no("not [not [not [not [not [1=2]]]]] and 1=2");
    }

    /** back and on: 99 without. */
    private static void cellsThatAreNot() {
        DuneRoad road = Road.on("sea 2;ground 0 3;ground 1 4;ship 0 9 9;ship 1 9 9", "go 1 if back=99 and on=4;go 0-1 if on=99 and back=3");
        road.run(0, 1);
        Road.due("the first cell has none ahead of it", road.ship(0, 0), 1);
        Road.due("the last cell has none behind it", road.ship(1, 0), 0);
        // On the next day: 7 there, and 0 now.
        DuneRoad next = Road.on("sea 3;train 0 0 07;ship 1 9 9", "go 1 if back=7 and on=7 and height=0");
        next.run(0, 1);
        Road.due("their height on the next day", next.ship(0, 0), 2);
        // A digging for this day alone.
        DuneRoad dug = Road.on("sea 3;ground 0 5;ground 1 5;ground 2 5;ship 1 9 9", "go 1 if back=5 and on=4 and height=3");
        dug.dig(0, 1, 1);
        dug.dig(1, 2, 1);
        dug.dig(2, 1, 2);
        dug.run(0, 1);
        Road.due("a digging that is over by then", dug.ship(0, 0), 2);
        DuneRoad last = Bounds.road(Starts.LAST_BUT_ONE);
        Road.feed(last, "go 1 if on=2 and day=9998");
        last.rule();
        last.run(1, 1);
        // Cell 1 on day 9999: its row at 9998 is 2.
        Road.due("the last day that there is", last.ship(0, 0), 1);
    }

    private static void wellsThatAreNot() {
        DuneRoad road = Road.on("sea 2;ground 1 5;well 1 4 3;town 0 60 9;ship 0 9 9;ship 1 9 9", "go 1-2*cell if well=0 and price=0");
        road.run(0, 1);
        Road.due("no well there", road.ship(0, 0), 1);
        Road.due("a well that is shut", road.ship(1, 0), 0);
        DuneRoad open = Road.on("sea 2;well 0 60 4;well 0 60 3;well 0 60 3;well 1 60 99;ship 0 9 9;ship 1 9 9",
                "go 1 if well=1 and price=3;go 0-1 if well=1 and price=99");
        open.run(0, 1);
        Road.due("the least dear", open.ship(0, 0), 1);
        Road.due("the dearest that can be", open.ship(1, 0), 0);
    }
}
