/** Promises 10 to 14: sail, fill, fence, dig, undo. */
public final class ActsTest {
    public static void main(String[] args) {
        sailing();
        lastDay();
        filling();
        fencing();
        digging();
        diggingsByDays();
        undoing();
        undoingDiggings();
        Road.finish();
    }

    private static void sailing() {
        // Day by day cell 1 is 4, 0, 4, 0 ..; the others stay at 0.
        DuneRoad road = Road.on("sea 3;train 1 0 04;ground 0 2;ship 0 3 1;ship 2 2 4;ship 1 9 0");
        Road.due("to a cell that is not", road.sail(0, -1), -1);
        Road.due("a way that is not", road.sail(0, 2), -1);
        Road.due("a way that is not", road.sail(0, -2), -1);
        Road.due("a ship that is not", road.sail(3, 0), -1);
        Road.due("a ship that is not", road.sail(-1, 0), -1);
        Road.due("nothing happened", road.count(6), 0);
        // Cell 0 is 2 now, cell 1 on day 1 is 0.
        Road.due("down", road.sail(0, 1), 1);
        Road.due("is there", road.ship(0, 0), 1);
        Road.due("has less", road.ship(0, 1), 2);
        Road.due("others stay", road.ship(1, 0), 2);
        Road.due("others have less", road.ship(1, 1), 1);
        // Cell 1 is 0 now; cell 0 is 2 on day 2, more than 0 and 1.
        Road.due("too high", road.sail(0, -1), -1);
        // Cell 2 on day 2 is 0.
        Road.due("along", road.sail(0, 1), 2);
        Road.due("water of ship 1", road.ship(1, 1), 0);
        Road.due("no water to go", road.sail(1, -1), -1);
        Road.due("it may stay", road.sail(1, 0), 3);
        Road.due("it is dry then", road.ship(1, 5), 2);
        Road.due("one that is dry", road.sail(1, 0), -1);
        Road.due("ship 0 has none", road.ship(0, 1), 0);
        Road.due("ship 2 sails", road.sail(2, 0), 4);
        Road.due("ship 0 is dry", road.ship(0, 5), 3);
        Road.due("dry ones stay as they are", road.ship(1, 5), 2);
        Road.due("two are dry", road.count(13), 2);
        // Heights go by 0, 6, 3: the next day counts, not the last one.
        DuneRoad next = Road.on("sea 2;train 0 0 063;ground 1 1;ship 0 9 0;ship 1 9 4");
        Road.due("7 on the next day", next.sail(0, 1), -1);
        Road.due("6 on the next day, too high from 1 and 4", next.sail(1, -1), -1);
        next.sail(0, 0);
        Road.due("from 6 to 4", next.sail(0, 1), 2);
        // Just as high as its own and its climb.
        DuneRoad step = Road.on("sea 2;ground 0 3;ground 1 7;ship 0 9 4;ship 0 9 3");
        Road.due("one too high", step.sail(1, 1), -1);
        Road.due("high enough", step.sail(0, 1), 1);
        Road.due("no sea", new DuneRoad().sail(0, 0), -1);
    }

    private static void lastDay() {
        DuneRoad road = Road.on("sea 2;well 0 60 1;ship 0 30 0", "fill 1=1;go 0");
        for (int i = 0; i < 99; i++) {
            road.run(0, 100);
        }
        Road.due("above 9999", road.run(0, 100), -1);
        Road.due("9998", road.run(0, 98), 9998);
        Road.due("sail to 9999", road.sail(0, 0), 9999);
        Road.due("no further", road.sail(0, 0), -1);
        Road.due("nor by a rule", road.run(0, 1), -1);
        Road.due("undo", road.undo(), 0);
        Road.due("9999 by a rule", road.run(0, 1), 9999);
        Road.due("acts without a day go on", road.fill(0), 1);
        Road.due("a digging", road.dig(0, 1, 30), 0);
        Road.due("days that are asked go on", road.drawn(0, 1, 100, 1), 99);
        Road.due("days that are asked go on", road.voyage(0, 1, 0), 10000);
    }

    private static void filling() {
        DuneRoad road = Road.on("sea 2;train 0 0 05;well 0 9 7;well 0 4 3;well 0 9 5;ship 0 9 0;ship 1 9 9;ship 0 1 0");
        Road.due("for none", road.fill(0), 0);
        Road.due("it is done all the same", road.count(9), 1);
        Road.due("no well there", road.fill(1), -1);
        Road.due("no ship", road.fill(3), -1);
        Road.due("no ship", road.fill(-1), -1);
        road.sail(0, 0);
        // Height 5 on day 1: the well of 3 coins is not open.
        Road.due("the least dear that is open", road.fill(0), 5);
        road.sail(0, 0);
        Road.due("another day another well", road.fill(0), 3);
        Road.due("paid", road.ship(0, 4), 8);
        Road.due("full", road.ship(0, 1), 9);
        Road.due("no day", road.count(6), 2);
        Road.due("dry", road.ship(2, 5), 1);
        Road.due("one that is dry", road.fill(2), -1);
        DuneRoad just = Road.on("sea 2;ground 0 9;ground 1 10;well 0 9 2;well 1 9 2;ship 0 1 0;ship 1 1 0");
        Road.due("just as high as its depth", just.fill(0), 0);
        Road.due("one higher", just.fill(1), -1);
        DuneRoad last = Road.on("sea 2;well 0 9 2;ship 0 1 0");
        last.sail(0, 0);
        Road.due("no water but not dry", last.fill(0), 2);
        Road.due("no sea", new DuneRoad().fill(0), -1);
    }

    private static void fencing() {
        DuneRoad road = Road.on("sea 3");
        Road.due("none to take away", road.fence(1, false), false);
        Road.due("put up", road.fence(1, true), true);
        Road.due("it is so", road.fence(1, true), false);
        Road.due("cell 3", road.fence(3, true), false);
        Road.due("cell -1", road.fence(-1, true), false);
        Road.due("cell 32", road.fence(32, true), false);
        Road.due("one", road.count(7), 2);
        Road.due("put up", road.fence(2, true), true);
        Road.due("take away", road.fence(1, false), true);
        Road.due("the other", road.count(7), 4);
        Road.due("acts that were done", road.count(9), 3);
        Road.due("no sea", new DuneRoad().fence(0, true), false);
    }

    private static void digging() {
        DuneRoad road = Road.on("sea 2;ground 1 15;ship 0 30 0");
        int[][] not = {{2, 1, 1}, {-1, 1, 1}, {0, 0, 1}, {0, 21, 1}, {0, 1, 0}, {0, 1, 31}, {0, -1, 1}, {0, 1, -1}};
        for (int[] row : not) {
            Road.due("dig " + row[0] + " " + row[1] + " " + row[2], road.dig(row[0], row[1], row[2]), -1);
        }
        Road.due("nothing happened", road.count(9), 0);
        Road.due("dig", road.dig(1, 1, 1), 14);
        for (int i = 0; i < 6; i++) {
            Road.due("dig", road.dig(1, 2, 30), 12 - 2 * i);
        }
        Road.due("0 at least", road.dig(1, 20, 2), 0);
        Road.due("8 last still", road.dig(0, 1, 1), -1);
        Road.due("8", road.count(8), 8);
        road.sail(0, 0);
        Road.due("one is over", road.count(8), 7);
        Road.due("height", road.height(1, 1), 0);
        Road.due("one more", road.dig(1, 1, 1), 0);
        Road.due("no more", road.dig(1, 1, 1), -1);
        road.sail(0, 0);
        Road.due("two more are over", road.count(8), 6);
        Road.due("height", road.height(1, 2), 3);
        Road.due("no sea", new DuneRoad().dig(0, 1, 1), -1);
    }

    private static void diggingsByDays() {
        DuneRoad road = Road.on("sea 2;ground 0 9;ground 1 9;ship 0 30 0");
        road.dig(0, 1, 2);
        road.sail(0, 0);
        road.dig(1, 2, 3);
        road.dig(1, 4, 1);
        int[] due = {9, 3, 7, 7, 9};
        for (int day = 0; day < 5; day++) {
            Road.due("height on day 1 of day " + day, road.height(1, day), due[day]);
        }
        road.sail(0, 0);
        // The first and the last one are over; the other one lasts on days 1 to 3.
        int[] then = {9, 7, 7, 7, 9};
        for (int day = 0; day < 5; day++) {
            Road.due("height on day 2 of day " + day, road.height(1, day), then[day]);
            Road.due("height of cell 0", road.height(0, day), 9);
        }
    }

    private static void undoing() {
        DuneRoad road = Road.on("sea 3;well 0 9 2;ship 0 9 9;ship 1 1 9");
        Road.due("none", road.undo(), -2);
        road.sail(0, 1);
        road.sail(0, -1);
        Road.due("dry", road.ship(1, 5), 1);
        road.fill(0);
        road.fence(1, true);
        road.dig(0, 1, 1);
        Road.due("five", road.count(9), 5);
        Road.due("undo dig", road.undo(), 4);
        Road.due("no digging", road.count(8), 0);
        Road.due("undo fence", road.undo(), 3);
        Road.due("no fence", road.count(7), 0);
        Road.due("undo fill", road.undo(), 2);
        Road.due("water", road.ship(0, 1), 7);
        Road.due("paid", road.ship(0, 4), 0);
        Road.due("undo sail", road.undo(), 1);
        Road.due("day", road.count(6), 1);
        Road.due("cell", road.ship(0, 0), 1);
        Road.due("not dry", road.ship(1, 5), -1);
        Road.due("undo sail", road.undo(), 0);
        Road.due("as at first", road.ship(1, 1), 1);
        Road.due("none more", road.undo(), -2);
        for (int i = 0; i < 25; i++) {
            road.fence(i % 2, i / 2 % 2 == 0);
        }
        Road.due("20 at most", road.count(9), 20);
        // Up to 24 acts ago: 0 up, 1 up, 0 away, 1 away and so on.
        int[] fences = {0, 1, 3, 2};
        for (int i = 19; i >= 0; i--) {
            Road.due("undo", road.undo(), i);
            Road.due("fences behind " + (i + 5) + " acts", road.count(7), fences[(i + 5) % 4]);
        }
        Road.due("no further", road.undo(), -2);
        // Five fences are not undone: 0 and 1 up, both away, 0 up.
        Road.due("as behind the fifth", road.count(7), 1);
    }

    private static void undoingDiggings() {
        DuneRoad road = Road.on("sea 2;ground 0 9;ship 0 9 0", "go 0");
        road.dig(0, 4, 1);
        road.seed(5);
        road.sail(0, 0);
        Road.due("over", road.height(0, 0), 9);
        Road.due("undo the day", road.undo(), 1);
        Road.due("it lasts again", road.height(0, 0), 5);
        Road.due("it lasts again", road.count(8), 1);
        Road.due("x is no act", road.count(16), 5);
        road.run(0, 1);
        Road.due("ahead of a rule nothing can be undone", road.undo(), -2);
        Road.due("none", road.count(9), 0);
    }
}
