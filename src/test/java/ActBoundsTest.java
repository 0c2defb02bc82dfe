/** The boundaries of promises 10 (sail), 11 (fill), 12 (fence), 13 (dig) and 14 (undo), and of ACTS (terms II). */
public final class ActBoundsTest {
    public static void main(String[] args) {
        sailWhoAndWhere();
        sailByOneCellAlone();
        sailWhileTheOthersStay();
        sailToTheEnds();
        sailAsHighAsItCan();
        sailWithoutWater();
        sailToTheLastDay();
        fillWho();
        fillForNone();
        fillAtAnOpenWell();
        fillAtTheLeastDear();
        fenceWhere();
        fenceThatIsSo();
        digWhat();
        digEight();
        digToTheLastDay();
        undoNone();
        undoTwenty();
        undoEachKind();
        refusedIsNoAct();
        Road.finish();
    }

    private static void sailWhoAndWhere() {
        Bounds.taken("sail of ship", Starts.RICH, 0, 2, -1, (road, ship) -> road.sail(ship, 0));
        Bounds.taken("sail of four", Starts.FULL, 0, 3, -1, (road, ship) -> road.sail(ship, 0));
        Bounds.Start middle = on("sea 3;ship 1 9 0");
        Bounds.taken("sail by way", middle, -1, 1, -1, (road, way) -> road.sail(0, way));
        for (int way = -1; way <= 1; way++) {
            DuneRoad road = Bounds.road(middle);
            Road.due("sail by " + way, road.sail(0, way), 1);
            Road.due("is there", road.ship(0, 0), 1 + way);
            Road.due("has one less", road.ship(0, 1), 8);
        }
        Bounds.still("no ship and no way", Starts.RICH, -1, road -> road.sail(3, 2));
        Road.due("no ships", Road.on("sea 2").sail(0, 0), -1);
    }

    private static Bounds.Start on(String sea, String... rules) {
        return road -> {
            Road.feed(road, sea);
            road.sea();
            for (String rule : rules) {
                Road.feed(road, rule);
                road.rule();
            }
        };
    }

    /** -1, 0 and 1 alone, also where CELLS further off are there and low enough. */
    private static void sailByOneCellAlone() {
        Bounds.Start wide = on("sea 9;ship 4 9 20");
        Bounds.taken("sail in a wide sea by way", wide, -1, 1, -1, (road, way) -> road.sail(0, way));
        for (int way : new int[] {-5, -4, -3, 3, 4, 5, 255, 256, 257, -255, 65537}) {
            Bounds.still("sail by " + way, wide, -1, road -> road.sail(0, way));
        }
    }

    /** The others stay, also those that went a DAY ahead; each of them has 1 less. */
    private static void sailWhileTheOthersStay() {
        DuneRoad road = Road.on("sea 9;ship 4 30 0;ship 4 29 0;ship 4 28 0;ship 4 27 0");
        int[][] sails = {{0, 1}, {1, -1}, {3, 1}, {2, 0}, {3, 1}, {0, -1}, {0, -1}, {1, 0}, {2, -1}};
        int[] cells = {4, 4, 4, 4};
        for (int day = 1; day <= sails.length; day++) {
            int sailing = sails[day - 1][0];
            Road.due("sail", road.sail(sailing, sails[day - 1][1]), day);
            cells[sailing] += sails[day - 1][1];
            for (int ship = 0; ship < 4; ship++) {
                Road.due("cell of ship " + ship + " on day " + day, road.ship(ship, 0), cells[ship]);
                Road.due("water of ship " + ship + " on day " + day, road.ship(ship, 1), 30 - ship - day);
            }
        }
    }

    /** No CELL beside the first and the last one. */
    private static void sailToTheEnds() {
        for (int cells = 2; cells <= 12; cells += 5) {
            int last = cells - 1;
            Bounds.Start start = on("sea " + cells + ";ship 0 9 20;ship " + last + " 9 20;ship 1 9 20;ship " + (last - 1) + " 9 20");
            Bounds.still("back from the first", start, -1, road -> road.sail(0, -1));
            Bounds.still("on from the last", start, -1, road -> road.sail(1, 1));
            DuneRoad road = Bounds.road(start);
            Road.due("back to the first", road.sail(2, -1), 1);
            Road.due("is there", road.ship(2, 0), 0);
            Road.due("on to the last", road.sail(3, 1), 2);
            Road.due("is there", road.ship(3, 0), last);
        }
    }

    /** HEIGHT there on the next DAY, at most HEIGHT of its own now and its CLIMB. */
    private static void sailAsHighAsItCan() {
        for (int climb = 0; climb <= 20; climb += 5) {
            Bounds.Start just = on("sea 2;train 0 0 012;ground 1 " + Math.max(0, climb - 1) + ";ship 0 9 " + climb);
            // Cell 0 is 0 now; on day 1 cell 1 is 1 higher than its ground.
            if (climb > 0) {
                Road.due("just as high as a climb of " + climb, Bounds.road(just).sail(0, 1), 1);
            }
            int ground = climb;
            Bounds.Start above = on("sea 2;train 0 0 012;ground 1 " + ground + ";ship 0 9 " + climb);
            Bounds.still("one above a climb of " + climb, above, -1, road -> road.sail(0, 1));
            Road.due("but it may stay", Bounds.road(above).sail(0, 0), 1);
        }
        // Now 5, 0 and 0; on the next day 0, 5 and 5: the other cell's next day counts, and its own now.
        Bounds.Start waves = on("sea 3;train 0 0 50;ground 1 4;ground 2 5;ship 1 9 0;ship 1 9 20");
        DuneRoad road = Bounds.road(waves);
        Road.due("9 now, 5 on the next day", road.sail(0, 1), 1);
        Bounds.Start back = on("sea 2;train 0 0 05;ship 0 9 4;ship 0 9 5");
        Bounds.still("0 and 4 now, 5 on the next day", back, -1, start -> start.sail(0, 1));
        Road.due("0 and 5 now", Bounds.road(back).sail(1, 1), 1);
        // A digging that is over on the next day does not help there, but a fence does.
        Bounds.Start dug = start -> {
            on("sea 2;ground 1 2;ship 0 9 1").on(start);
            start.dig(1, 1, 1);
        };
        Bounds.still("a digging for this day alone", dug, -1, start -> start.sail(0, 1));
        Bounds.Start longer = start -> {
            on("sea 2;ground 1 2;ship 0 9 1").on(start);
            start.dig(1, 1, 2);
        };
        Road.due("a digging for the next day, too", Bounds.road(longer).sail(0, 1), 1);
        Bounds.Start under = start -> {
            on("sea 2;ground 0 1;ground 1 1;ship 0 9 0").on(start);
            start.dig(0, 1, 1);
        };
        Bounds.still("its own cell is dug now", under, -1, start -> start.sail(0, 1));
        Bounds.Start fenced = start -> {
            on("sea 2;ground 1 4;ship 0 9 1").on(start);
            start.fence(1, true);
        };
        Road.due("a fence", Bounds.road(fenced).sail(0, 1), 1);
        Bounds.Start behind = start -> {
            on("sea 2;ship 0 9 2").on(start);
            start.fence(0, true);
        };
        Bounds.still("behind a fence", behind, -1, start -> start.sail(0, 1));
    }

    private static void sailWithoutWater() {
        Bounds.still("one that is dry stays", Starts.DRY, -1, road -> road.sail(0, 0));
        Bounds.still("one that is dry goes", Starts.DRY, -1, road -> road.sail(0, 1));
        Bounds.still("no water to go back", Starts.DRY, -1, road -> road.sail(2, -1));
        DuneRoad road = Bounds.road(Starts.DRY);
        Road.due("without water it may stay", road.sail(2, 0), 3);
        Road.due("and is dry from then on", road.ship(2, 5), 2);
        Road.due("the other one is dry since", road.ship(0, 5), 1);
        Road.due("two", road.count(13), 2);
        Road.due("dry: no more", road.sail(2, 0), -1);
        // The last water is enough to go by.
        DuneRoad last = Road.on("sea 3;ship 0 1 0");
        Road.due("with the last water", last.sail(0, 1), 1);
        Road.due("it is there", last.ship(0, 0), 1);
        Road.due("and has none", last.ship(0, 1), 0);
        Road.due("and is not dry", last.ship(0, 5), -1);
        Road.due("no further", last.sail(0, 1), -1);
    }

    private static void sailToTheLastDay() {
        for (int way = 0; way <= 1; way++) {
            DuneRoad road = Bounds.road(Starts.LAST_BUT_ONE);
            Road.due("sail to day 9999", road.sail(0, way), 9999);
            Road.due("it is day 9999", road.count(6), 9999);
            Road.due("is there", road.ship(0, 0), way);
        }
        Bounds.still("stay on day 9999", Starts.LAST_DAY, -1, road -> road.sail(0, 0));
        Bounds.still("go on day 9999", Starts.LAST_DAY, -1, road -> road.sail(0, 1));
        DuneRoad road = Bounds.road(Starts.LAST_DAY);
        road.undo();
        Road.due("the day undone", road.undo(), 1);
        Road.due("9998", road.count(6), 9998);
        Road.due("sail again", road.sail(0, 0), 9999);
    }

    private static void fillWho() {
        Bounds.taken("fill of ship", Starts.RICH, 0, 2, -1, (road, ship) -> road.fill(ship));
        Bounds.still("one that is dry at an open well", Starts.DRY, -1, road -> road.fill(0));
        Bounds.still("no well there", Starts.DRY, -1, road -> road.fill(1));
        Bounds.still("no well there, and no water", Starts.DRY, -1, road -> road.fill(2));
        Bounds.still("a town is no well", on("sea 2;town 0 60 1;well 1 60 1;ship 0 9 0"), -1, road -> road.fill(0));
        DuneRoad none = Road.on("sea 2;well 0 60 7;ship 0 2 0");
        none.sail(0, 0);
        none.sail(0, 0);
        Road.due("without water, but not dry", none.fill(0), 14);
        Road.due("full", none.ship(0, 1), 2);
        Road.due("paid", none.ship(0, 4), 14);
        DuneRoad last = Bounds.road(Starts.LAST_DAY);
        // It filled ahead of day 9997, and had one less by that and by the next day.
        Road.due("no day is needed", last.fill(0), 2);
        Road.due("day 9999", last.count(6), 9999);
        // The most that one can pay.
        DuneRoad dear = Road.on("sea 2;well 0 60 99;ship 0 30 0");
        for (int i = 0; i < 30; i++) {
            dear.sail(0, 0);
        }
        Road.due("30 of 99 coins", dear.fill(0), 2970);
    }

    /** 0 coins: it is done all the same. */
    private static void fillForNone() {
        DuneRoad road = Road.on("sea 2;well 0 60 7;ship 0 9 0");
        Road.due("full", road.fill(0), 0);
        Road.due("an act", road.count(9), 1);
        Road.due("again", road.fill(0), 0);
        Road.due("two acts", road.count(9), 2);
        Road.due("water", road.ship(0, 1), 9);
        Road.due("undone", road.undo(), 1);
        Road.due("undone", road.undo(), 0);
        Road.due("no more", road.undo(), -2);
    }

    private static void fillAtAnOpenWell() {
        for (int depth = 0; depth <= 20; depth += 5) {
            Bounds.Start just = on("sea 2;ground 0 " + depth + ";well 0 " + depth + " 3;ship 0 9 0");
            Road.due("sand as high as a depth of " + depth, Bounds.road(just).fill(0), 0);
            if (depth < 20) {
                Bounds.Start above = on("sea 2;ground 0 " + (depth + 1) + ";well 0 " + depth + " 3;ship 0 9 0");
                Bounds.still("sand one above a depth of " + depth, above, -1, road -> road.fill(0));
            }
        }
        // Open on day 0, shut on day 1.
        DuneRoad road = Road.on("sea 2;train 0 0 56;well 0 5 3;ship 0 9 0");
        Road.due("day 0", road.fill(0), 0);
        road.sail(0, 0);
        Road.due("day 1", road.fill(0), -1);
        Road.due("one act of filling, one of sailing", road.count(9), 2);
        road.dig(0, 1, 1);
        Road.due("dug open", road.fill(0), 3);
    }

    private static void fillAtTheLeastDear() {
        DuneRoad road = Road.on("sea 2;ground 0 5;well 0 5 9;well 0 4 1;well 0 5 8;well 1 9 2;ship 0 9 0");
        road.sail(0, 0);
        Road.due("of those that are open the least dear", road.fill(0), 8);
        DuneRoad equal = Road.on("sea 2;well 0 5 9;well 0 4 9;ship 0 9 0");
        equal.sail(0, 0);
        Road.due("of equal ones one", equal.fill(0), 9);
        Road.due("once", equal.ship(0, 4), 9);
    }

    private static void fenceWhere() {
        Bounds.taken("fence in cell", on("sea 5"), 0, 4, 0, (road, cell) -> road.fence(cell, true) ? 1 : 0);
        Bounds.taken("fence in cell of twelve", on("sea 12"), 0, 11, 0, (road, cell) -> road.fence(cell, true) ? 1 : 0);
        for (int cell : new int[] {-1, 5, 12, 31, 32, 33, 64, Integer.MIN_VALUE, Integer.MAX_VALUE}) {
            Bounds.still("fence up in cell " + cell, Starts.RICH, 0, road -> road.fence(cell, true) ? 1 : 0);
            Bounds.still("fence away in cell " + cell, Starts.RICH, 0, road -> road.fence(cell, false) ? 1 : 0);
        }
        DuneRoad all = Road.on("sea 12");
        for (int cell = 0; cell < 12; cell++) {
            Road.due("a fence in each cell", all.fence(cell, true), true);
        }
        Road.due("twelve", all.count(7), 4095);
        for (int cell = 11; cell >= 0; cell--) {
            Road.due("and away", all.fence(cell, false), true);
        }
        Road.due("none", all.count(7), 0);
    }

    private static void fenceThatIsSo() {
        Bounds.still("there is one", Starts.RICH, 0, road -> road.fence(1, true) ? 1 : 0);
        Bounds.still("there is none", Starts.RICH, 0, road -> road.fence(0, false) ? 1 : 0);
        Bounds.still("there is none", Starts.RICH, 0, road -> road.fence(4, false) ? 1 : 0);
        DuneRoad road = Bounds.road(Starts.RICH);
        Road.due("away", road.fence(1, false), true);
        Road.due("once", road.fence(1, false), false);
        Road.due("up", road.fence(1, true), true);
        Road.due("once", road.fence(1, true), false);
    }

    private static void digWhat() {
        Bounds.taken("dig in cell", Starts.RICH, 0, 4, -1, (road, cell) -> road.dig(cell, 1, 1));
        Bounds.taken("dig in cell of twelve", on("sea 12"), 0, 11, -1, (road, cell) -> road.dig(cell, 1, 1));
        Bounds.taken("dig by", Starts.RICH, 1, 20, -1, (road, by) -> road.dig(0, by, 1));
        Bounds.taken("dig for days", Starts.RICH, 1, 30, -1, (road, days) -> road.dig(0, 1, days));
        Bounds.still("nothing is right", Starts.RICH, -1, road -> road.dig(5, 21, 31));
        DuneRoad road = Road.on("sea 2;ground 0 20;ground 1 19");
        Road.due("by 20", road.dig(1, 20, 1), 0);
        Road.due("by 1", road.dig(0, 1, 1), 19);
        Road.due("by 19 more", road.dig(0, 19, 1), 0);
        Road.due("below 0 it is 0", road.dig(0, 1, 1), 0);
        Road.due("four", road.count(8), 4);
    }

    /** Eight that last still; one that is over makes room. */
    private static void digEight() {
        Bounds.still("a ninth", Starts.FULL, -1, road -> road.dig(0, 1, 1));
        Bounds.Start eight = road -> {
            on("sea 2;ground 0 20;ship 1 30 0").on(road);
            road.dig(0, 1, 1);
            for (int i = 0; i < 7; i++) {
                Road.due("digging " + (i + 2), road.dig(0, 1, 2), 18 - i);
            }
        };
        Bounds.still("a ninth", eight, -1, road -> road.dig(1, 1, 1));
        DuneRoad road = Bounds.road(eight);
        road.sail(0, 0);
        Road.due("one is over", road.count(8), 7);
        Road.due("room for one", road.dig(0, 1, 1), 12);
        Road.due("eight again", road.count(8), 8);
        Road.due("no more", road.dig(0, 1, 1), -1);
        road.sail(0, 0);
        Road.due("all are over", road.count(8), 0);
        Road.due("height", road.height(0, 2), 20);
        DuneRoad undone = Bounds.road(eight);
        undone.undo();
        Road.due("one undone makes room", undone.dig(0, 1, 1), 12);
        DuneRoad run = Bounds.road(eight);
        Road.feed(run, "go 0");
        run.rule();
        run.run(0, 1);
        Road.due("over by a rule's day", run.count(8), 7);
    }

    private static void digToTheLastDay() {
        DuneRoad road = Road.on("sea 2;ground 0 20;ship 1 30 0", "go 0");
        road.dig(0, 20, 30);
        Road.due("the thirtieth day", road.height(0, 29), 0);
        Road.due("the next", road.height(0, 30), 20);
        road.run(0, 29);
        Road.due("on its last day it lasts", road.count(8), 1);
        Road.due("on its last day it lasts", road.height(0, 29), 0);
        Road.due("the first day, too", road.height(0, 0), 0);
        road.run(0, 1);
        Road.due("then it is over", road.count(8), 0);
        Road.due("over by now: on no day", road.height(0, 29), 20);
        DuneRoad last = Bounds.road(Starts.LAST_DAY);
        // Cell 1 on day 9999: its row at 9998 is 2; one digging is there already.
        Road.due("dig on day 9999", last.dig(1, 1, 30), 0);
        Road.due("two", last.count(8), 2);
        // Its row at 10027 and at 10031 is 3.
        Road.due("days go on beyond it, to the last of both", last.height(1, 10028), 1);
        Road.due("behind these", last.height(1, 10032), 3);
    }

    private static void undoNone() {
        Bounds.still("a new object", Starts.NEW, -2, DuneRoad::undo);
        Bounds.still("a new sea", on("sea 2;ship 0 9 0"), -2, DuneRoad::undo);
        Bounds.still("behind a rule's day", road -> {
            Starts.RICH.on(road);
            road.run(0, 1);
        }, -2, DuneRoad::undo);
        DuneRoad road = Road.on("sea 2;ship 0 9 0");
        road.fence(0, true);
        Road.due("one", road.undo(), 0);
        Road.due("none", road.undo(), -2);
        Road.due("none still", road.undo(), -2);
        Road.due("no fence", road.count(7), 0);
    }

    private static void undoTwenty() {
        for (int acts : new int[] {1, 19, 20, 21, 40}) {
            DuneRoad road = Road.on("sea 2;well 0 60 1;ship 0 30 0");
            for (int i = 1; i <= acts; i++) {
                road.fence(0, i % 2 == 1);
                Road.due("acts that can be undone", road.count(9), Math.min(20, i));
            }
            int undone = 0;
            for (int left = Math.min(20, acts) - 1; left >= 0; left--) {
                Road.due("undo of " + acts, road.undo(), left);
                undone++;
                Road.due("fence behind it", road.count(7), (acts - undone) % 2);
                Road.due("acts left", road.count(9), left);
            }
            Road.due("no more of " + acts, road.undo(), -2);
            Road.due("as it was", road.count(7), (acts - undone) % 2);
        }
        DuneRoad full = Bounds.road(Starts.FULL);
        Road.due("one of twenty", full.undo(), 19);
        Road.due("one more", full.dig(0, 1, 1) >= 0, true);
        Road.due("twenty", full.count(9), 20);
        Road.due("and one more", full.fence(0, true), true);
        Road.due("twenty still", full.count(9), 20);
    }

    /** Each kind of act, done and undone: all is as without it. */
    private static void undoEachKind() {
        undone("sail", road -> road.sail(1, 0));
        undone("sail that goes", road -> road.sail(2, -1));
        undone("fill", road -> road.fill(1));
        undone("fence up", road -> road.fence(0, true) ? 1 : 0);
        undone("fence away", road -> road.fence(1, false) ? 1 : 0);
        undone("dig", road -> road.dig(0, 4, 4));
        Bounds.same("all undone", road -> {
            Starts.richWithoutImages(road);
            while (road.undo() >= 0) {
                Road.due("something is there still", road.count(0), 5);
            }
            road.sight(-1, true);
            road.told(-1, 0, 0);
            road.fleet(-1, 0, 0);
        }, Starts::read);
        // A day by which a digging is over and a ship is dry.
        Bounds.Start edge = road -> {
            on("sea 2;ground 0 9;ship 0 1 0;ship 1 9 0").on(road);
            road.sail(1, 0);
            road.dig(0, 3, 1);
        };
        Bounds.same("a day undone", road -> {
            edge.on(road);
            road.sail(1, 0);
            Road.due("dry", road.count(13), 1);
            Road.due("over", road.count(8), 0);
            Road.due("undo", road.undo(), 2);
        }, edge);
    }

    private static void undone(String what, Bounds.Call act) {
        Road.due(what + " is taken", act.on(Bounds.road(Starts.RICH)) != -1, true);
        Bounds.differs(what, road -> {
            Starts.RICH.on(road);
            act.on(road);
        }, Starts.RICH);
        Bounds.same(what + " undone", road -> {
            Starts.RICH.on(road);
            act.on(road);
            road.undo();
        }, Starts.RICH);
    }

    /** What is told or asked is no act, and neither is what was refused. */
    private static void refusedIsNoAct() {
        DuneRoad road = Bounds.road(Starts.RICH);
        int acts = road.count(9);
        road.sight(0, true);
        road.told(0, 0, 0);
        road.fleet(1, 1, 1);
        road.seed(3);
        road.image(3);
        road.feed(0, 0, 0, 0, 0);
        road.end(0);
        Road.due("acts", road.count(9), acts);
        road.undo();
        Road.due("the sight stays", road.count(10), 3);
        Road.due("the height stays", road.count(11), 2);
        Road.due("the fleet stays", road.count(12), 3);
        Road.due("x stays", road.count(16), 3);
    }
}
