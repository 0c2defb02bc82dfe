/** Promise 15: days by a rule, and what its words, signs and tests mean. */
public final class RuleRunTest {
    public static void main(String[] args) {
        refused();
        arithmetic();
        tests();
        words();
        ways();
        fillsThenGoes();
        manyShips();
        dryShips();
        mostClauses();
        Road.finish();
    }

    private static void refused() {
        Road.due("no sea", new DuneRoad().run(0, 1), -1);
        DuneRoad none = new DuneRoad();
        Road.feed(none, "go 1");
        none.rule();
        Road.due("no sea", none.run(0, 1), -1);
        DuneRoad road = Road.on("sea 2;ship 0 9 0", "go 0");
        Road.due("rule 1", road.run(1, 1), -1);
        Road.due("rule -1", road.run(-1, 1), -1);
        Road.due("0 days", road.run(0, 0), -1);
        Road.due("101 days", road.run(0, 101), -1);
        Road.due("many days", road.run(0, Integer.MAX_VALUE), -1);
        road.fence(0, true);
        Road.due("what is refused leaves what can be undone", road.run(0, 0), -1);
        Road.due("one", road.count(9), 1);
        Road.due("100 days", road.run(0, 100), 100);
        Road.due("none", road.count(9), 0);
    }

    /** Twelve clauses of which none holds, and such of which the last alone does. */
    private static void mostClauses() {
        DuneRoad road = Road.on("sea 3;well 0 60 2;ship 0 9 9", "go 1 if 1=2" + ";go 1 if 1=2".repeat(11),
                "fill 1=2" + ";fill 1=2".repeat(11), "go 1 if 1=2;fill 1=2" + ";fill 1=2;go 1 if 2=1".repeat(4) + ";go 1;fill 1=1");
        Road.due("a day", road.run(0, 1), 1);
        Road.due("it stays", road.ship(0, 0), 0);
        Road.due("a day", road.run(1, 1), 2);
        Road.due("it does not fill", road.ship(0, 4), 0);
        Road.due("a day", road.run(2, 1), 3);
        Road.due("it goes", road.ship(0, 0), 1);
        Road.due("it fills", road.ship(0, 4), 4);
    }

    /** Whether a test holds for a ship of number 1 in cell 2 on day 3 with water 6 of 9, at a well of 5 coins. */
    private static boolean holds(String test) {
        DuneRoad road = Road.on("sea 4;train 0 0 1234567;ground 2 8;ground 3 3;well 2 60 9;well 2 60 5;ship 0 1 0;ship 2 9 0", "fill " + test);
        road.sail(1, 0);
        road.sail(1, 0);
        road.fill(1);
        road.sail(1, 0);
        road.sail(1, 0);
        road.undo();
        road.run(0, 1);
        int paid = road.ship(1, 4);
        Road.due("paid by " + test, paid == 10 || paid == 15, true);
        return paid == 15;
    }

    private static void yes(String test) {
        Road.due(test, holds(test), true);
    }

    private static void no(String test) {
        Road.due(test, holds(test), false);
    }

    private static void arithmetic() {
        yes("2+3*4=14");
        yes("2*3+4=10");
        yes("20-3-4=13");
        yes("20-3*2-4=10");
        yes("100/7/2=7");
        yes("100/7*2=28");
        yes("17%5*2=4");
        yes("0-7/2=0-3");
        // 2 to the 63rd goes round to the least number: / and % of that are towards 0.
        yes("65536*65536*32768*65536<0");
        yes("65536*65536*32768*65536/65536/65536/10000%1000=0-%d".replace("%d", String.valueOf((1L << 31) / 10000 % 1000)));
        yes("65536*65536*32768*65536%1000=0-%d".replace("%d", String.valueOf(-(Long.MIN_VALUE % 1000))));
        yes("1-8/1%5*1=0-2");
        yes("5/0=0");
        yes("5%0=0");
        yes("5/0*9+4%0=0");
        yes("99999*99999*99999*99999=" + wrap());
        no("1=2");
        yes("00012=12");
    }

    /** 99999 to the fourth goes round in 64 bits; a sum of numbers of five digits that is the same. */
    private static String wrap() {
        long number = 99999L * 99999 * 99999 * 99999;
        String sum = "";
        long left = number;
        boolean minus = left < 0;
        left = Math.abs(left);
        long[] weights = {10000000000000000L, 1000000000000L, 100000000L, 10000L, 1L};
        String[] tens = {"*10000*10000*10000*10000", "*10000*10000*10000", "*10000*10000", "*10000", ""};
        for (int i = 0; i < 5; i++) {
            sum += (minus ? "-" : "+") + left / weights[i] + tens[i];
            left %= weights[i];
        }
        return "0" + sum;
    }

    private static void tests() {
        yes("1<2");
        no("2<2");
        yes("2<=2");
        no("3<=2");
        yes("2>=2");
        no("1>=2");
        yes("3>2");
        no("2>2");
        yes("1<2 and 1<=1 and 1=1 and 2>=1 and 2>1");
        yes("1=1 or 1=2 and 1=2");
        no("[1=1 or 1=2] and 1=2");
        yes("not 1=2 and 1=1");
        no("not 1=2 and 1=2");
        no("not [1=2 or 1=1]");
        yes("not not 1=1");
        no("not not not 1=1");
        yes("1=2 or not 1=2");
        yes("1=2 and 1=2 or 1=1 and not 2=1 or 1=2");
        no("1=1 and 1=2 or 1=2 and 1=1");
    }

    private static void words() {
        yes("ship=1");
        yes("cell=2");
        yes("day=3");
        yes("water=8");
        yes("tank=9");
        // Row at 3 is 4, and 8.
        yes("height=12");
        // Cell 1 on day 4: 5. Cell 3: 5 and 3.
        yes("back=5");
        yes("on=8");
        yes("well=1");
        yes("price=5");
        yes("paid=10");
        DuneRoad first = Road.on("sea 2;ship 0 9 9;ship 1 9 9", "go 1 if back=99 and well=0 and price=0;go 0-1 if on=99 and well=0");
        first.run(0, 1);
        Road.due("the first has none back", first.ship(0, 0), 1);
        Road.due("the last has none on", first.ship(1, 0), 0);
        // The well is shut by day 1.
        DuneRoad shut = Road.on("sea 2;train 0 0 05;well 0 4 6;ship 0 9 9", "go 1 if well=0 and price=0");
        shut.run(0, 1);
        Road.due("open on day 0", shut.ship(0, 0), 0);
        shut.run(0, 1);
        Road.due("shut on day 1", shut.ship(0, 0), 1);
    }

    private static void ways() {
        DuneRoad road = Road.on("sea 4;ship 1 30 0", "go 2", "go 0-1", "go 1 if 1=2;go 0;go 1", "go 1 if 1=2;go 1 if 2=2;go 0-1",
                "go 99999*99999*99999*99999", "fill 1=1");
        int[] due = {1, 0, 0, 1, 1, 1};
        for (int rule = 0; rule < 6; rule++) {
            road.run(rule, 1);
            Road.due("cell by rule " + rule, road.ship(0, 0), due[rule]);
        }
        DuneRoad edge = Road.on("sea 2;ground 1 5;ship 0 9 4", "go 0-1", "go 1");
        edge.run(0, 1);
        Road.due("it can't", edge.ship(0, 0), 0);
        edge.run(1, 1);
        Road.due("it can't", edge.ship(0, 0), 0);
        Road.due("it stays and has less", edge.ship(0, 1), 7);
        DuneRoad wide = Road.on("sea 2;ship 0 9 4", "go 65536*65536+1");
        wide.run(0, 1);
        Road.due("1 by its low bits alone is not 1", wide.ship(0, 0), 0);
    }

    private static void fillsThenGoes() {
        DuneRoad road = Road.on("sea 2;well 0 9 2;ship 0 2 0", "fill water=0;go 1 if water=tank and paid=4");
        road.run(0, 2);
        Road.due("not yet", road.ship(0, 0), 0);
        Road.due("no water", road.ship(0, 1), 0);
        road.run(0, 1);
        Road.due("filled, then gone", road.ship(0, 0), 1);
        Road.due("one less then", road.ship(0, 1), 1);
        Road.due("paid", road.ship(0, 4), 4);
        DuneRoad any = Road.on("sea 2;well 0 9 2;ship 0 5 0", "go 0;fill 1=2;fill 1=1;fill 1=1");
        any.sail(0, 0);
        any.run(0, 1);
        Road.due("some fill test, and once", any.ship(0, 4), 2);
        DuneRoad none = Road.on("sea 2;well 1 9 2;ship 0 5 0", "fill 1=1;go 1");
        none.run(0, 1);
        Road.due("it fills if it can, and goes", none.ship(0, 0), 1);
        Road.due("no coins", none.ship(0, 4), 0);
        none.run(0, 1);
        Road.due("there it can", none.ship(0, 4), 2);
    }

    private static void manyShips() {
        // Cell 1 is 3 on odd days, 0 on even ones.
        DuneRoad road = Road.on("sea 3;train 0 0 03;ground 0 0;ground 2 9;ship 0 9 0;ship 0 9 3;ship 2 9 0;ship 1 9 12", "go 1 if cell<1;go 0-1 if ship=2;go 1");
        road.run(0, 1);
        Road.due("too high", road.ship(0, 0), 0);
        Road.due("climbs", road.ship(1, 0), 1);
        Road.due("back", road.ship(2, 0), 1);
        Road.due("on", road.ship(3, 0), 2);
        Road.due("day", road.count(6), 1);
    }

    private static void dryShips() {
        DuneRoad road = Road.on("sea 3;well 1 9 1;ship 0 1 0;ship 1 1 0", "go 1 if ship=0;fill day=2");
        Road.due("run", road.run(0, 1), 1);
        Road.due("gone", road.ship(0, 0), 1);
        Road.due("run", road.run(0, 1), 2);
        Road.due("no water to go", road.ship(0, 0), 1);
        Road.due("dry by day 1", road.ship(0, 5), 1);
        Road.due("run", road.run(0, 1), 3);
        Road.due("dry ones do not fill", road.ship(0, 4), 0);
        Road.due("both", road.count(13), 2);
    }
}
