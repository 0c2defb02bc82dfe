/** The boundaries of promises 32 (seed) and 33 (drawn). */
public final class DrawBoundsTest {
    public static void main(String[] args) {
        seeds();
        drawnOfWhat();
        oddsOfNoneAndAll();
        firstAndLastDraws();
        xGoesOn();
        waterByStorms();
        atTheEnd();
        beyondTheLastDay();
        diggingsThatAreOver();
        Road.finish();
    }

    private static Bounds.Start on(String sea, String rule) {
        return road -> {
            Road.feed(road, sea);
            road.sea();
            Road.feed(road, rule);
            road.rule();
        };
    }

    private static void seeds() {
        for (Bounds.Start start : new Bounds.Start[] {Starts.NEW, Starts.NO_SEA, Starts.RICH, Starts.FULL}) {
            Bounds.still("x below 0", start, -1, road -> road.seed(-1));
            Bounds.still("x far below 0", start, -1, road -> road.seed(Integer.MIN_VALUE));
            int was = Bounds.road(start).count(16);
            for (int x : new int[] {0, 1, 2147483646, 2147483647}) {
                DuneRoad road = Bounds.road(start);
                Road.due("what it was", road.seed(x), was);
                Road.due("what it is", road.count(16), x);
                Road.due("what it was", road.seed(0), x);
            }
            Bounds.still("x as it was", start, was, road -> road.seed(was));
        }
        Road.due("0 at first", new DuneRoad().count(16), 0);
    }

    private static void drawnOfWhat() {
        Bounds.asked("drawn by rule", Starts.RICH, 0, 2, -1, (road, rule) -> road.drawn(rule, 1, 1, 0));
        Bounds.asked("drawn by rule of six", Starts.FULL, 0, 5, -1, (road, rule) -> road.drawn(rule, 2, 9, 2));
        Bounds.asked("drawn times", Starts.RICH, 1, 10, -1, (road, m) -> road.drawn(0, m, 1, 0));
        Bounds.asked("drawn days", Starts.RICH, 1, 100, -1, (road, n) -> road.drawn(0, 1, n, 1));
        Bounds.asked("drawn what", Starts.RICH, 0, 2, -1, (road, what) -> road.drawn(0, 1, 1, what));
        Bounds.still("the most", Starts.RICH, Bounds.road(Starts.RICH).drawn(2, 10, 100, 1), road -> road.drawn(2, 10, 100, 1));
        Bounds.still("nothing is right", Starts.RICH, -1, road -> road.drawn(3, 11, 101, 3));
        Bounds.still("a rule but no sea", Starts.NO_SEA, -1, road -> road.drawn(0, 1, 1, 0));
        Bounds.still("a sea but no rule", road -> {
            Road.feed(road, "sea 2");
            road.sea();
        }, -1, road -> road.drawn(0, 1, 1, 0));
    }

    private static void oddsOfNoneAndAll() {
        for (String storm : new String[] {"", ";storm 0 1", ";storm 0 9"}) {
            Bounds.still("never" + storm, on("sea 2;ship 0 9 0" + storm, "go 0"), 0, road -> road.drawn(0, 10, 100, 2));
        }
        for (int odds = 1; odds <= 9; odds++) {
            Bounds.still("each day", on("sea 2;ship 0 9 0;storm " + odds + " " + odds, "go 0"), 1000, road -> road.drawn(0, 10, 100, 2));
        }
    }

    /** x = 0 becomes 12345, and a DRAW is 0; the next x is 1406932606 and a DRAW is 21468. */
    private static void firstAndLastDraws() {
        DuneRoad road = Road.on("sea 2;storm 1 9", "go 0");
        Road.due("0 mod 9 is below 1", road.drawn(0, 1, 1, 2), 1);
        // 21468 mod 9 is 3.
        Road.due("3 is not", road.drawn(0, 1, 2, 2), 1);
        Road.due("twice: 3 is not", road.drawn(0, 2, 1, 2), 1);
        DuneRoad three = Road.on("sea 2;storm 3 9", "go 0");
        three.seed(12345);
        Road.due("3 is not below 3", three.drawn(0, 1, 1, 2), 0);
        DuneRoad four = Road.on("sea 2;storm 4 9", "go 0");
        four.seed(12345);
        Road.due("3 is below 4", four.drawn(0, 1, 1, 2), 1);
        // x = 2147483647: -1103515245 + 12345 of 2147483648 the rest is 1043980748; a draw of 15929, mod 7 it is 4.
        DuneRoad last = Road.on("sea 2;storm 4 7", "go 0");
        last.seed(2147483647);
        Road.due("4 is not below 4", last.drawn(0, 1, 1, 2), 0);
        DuneRoad more = Road.on("sea 2;storm 5 7", "go 0");
        more.seed(2147483647);
        Road.due("4 is below 5", more.drawn(0, 1, 1, 2), 1);
    }

    /** One draw a day, through all times; behind it x is as it was. */
    private static void xGoesOn() {
        for (int odds = 0; odds <= 5; odds++) {
            DuneRoad road = Road.on("sea 2;storm " + odds + " 5", "go 0");
            road.seed(99);
            int ten = road.drawn(0, 10, 10, 2);
            Road.due("ten times ten are a hundred", ten, road.drawn(0, 1, 100, 2));
            Road.due("five times twenty are, too", ten, road.drawn(0, 5, 20, 2));
            Road.due("x is as it was", road.count(16), 99);
        }
    }

    private static void waterByStorms() {
        // A storm each day: water 3 goes by 1, and by 1 more; then 1 goes by 1; then none is lost.
        DuneRoad road = Road.on("sea 2;ship 0 3 0;storm 1 1", "go 0");
        Road.due("behind one day 1, two days 0", road.drawn(0, 1, 2, 0), 0);
        Road.due("three days: dry", road.drawn(0, 1, 3, 0), 1);
        DuneRoad even = Road.on("sea 2;ship 0 2 0;storm 1 1", "go 0");
        Road.due("behind one day 0", even.drawn(0, 1, 1, 0), 0);
        Road.due("two days: dry", even.drawn(0, 1, 2, 0), 1);
        // One with no water is not dry by a storm: it may fill.
        DuneRoad low = Road.on("sea 2;well 0 60 1;ship 0 1 0;storm 1 1", "fill 1=1");
        Road.due("never dry", low.drawn(0, 10, 100, 0), 0);
        Road.due("one coin a day but the first", low.drawn(0, 1, 100, 1), 99);
        DuneRoad two = Road.on("sea 2;well 0 60 1;ship 0 2 0;storm 1 1", "fill 1=1");
        Road.due("two coins a day but the first", two.drawn(0, 1, 100, 1), 198);
        // The storm is behind the day: its rule sees it a day later.
        DuneRoad seen = Road.on("sea 2;well 0 60 1;ship 0 9 0;storm 1 1", "fill water=7");
        Road.due("7 behind a day and a storm", seen.drawn(0, 1, 2, 1), 2);
        Road.due("not on the first day", seen.drawn(0, 1, 1, 1), 0);
    }

    private static void atTheEnd() {
        DuneRoad road = Bounds.road(Starts.DRY);
        Road.due("dry already, and the one without water", road.drawn(0, 1, 1, 0), 2);
        Road.due("ten times", road.drawn(0, 10, 1, 0), 20);
        Road.due("no coins by dry ones", road.drawn(0, 10, 1, 1), 0);
        DuneRoad paid = Road.on("sea 2;well 0 60 5;ship 0 9 0", "fill 1=1");
        paid.sail(0, 0);
        Road.due("paid by hand", paid.fill(0), 5);
        Road.due("not in these", paid.drawn(0, 1, 1, 1), 0);
        Road.due("in these alone", paid.drawn(0, 1, 2, 1), 5);
        Road.due("each time from now on", paid.drawn(0, 10, 2, 1), 50);
        DuneRoad none = Road.on("sea 2;storm 1 1", "go 0");
        Road.due("no ships are dry", none.drawn(0, 10, 100, 0), 0);
        Road.due("but storms", none.drawn(0, 10, 100, 2), 1000);
    }

    private static void beyondTheLastDay() {
        DuneRoad road = Bounds.road(Starts.LAST_DAY);
        Road.due("a day by the rule can't be", road.run(0, 1), -1);
        // It has 28 of 30: 2 coins on the first day, then one a day and one more a storm.
        int storms = road.drawn(0, 1, 99, 2);
        Road.due("a hundred days drawn", road.drawn(0, 1, 100, 1), 2 + 99 + storms);
        Bounds.still("and it is still the last day", Starts.LAST_DAY, 10, start -> start.drawn(0, 10, 100, 0));
        DuneRoad words = Bounds.road(Starts.LAST_DAY);
        Road.feed(words, "fill day=10000");
        words.rule();
        Road.due("day 9999 alone", words.drawn(1, 1, 1, 1), 0);
        Road.due("day 10000 is one", words.drawn(1, 1, 2, 1) > 0, true);
    }

    /** While it is drawn, diggings are over as by days that go by. */
    private static void diggingsThatAreOver() {
        DuneRoad road = Road.on("sea 2;ground 0 1;well 0 0 1;ship 0 30 0", "fill 1=1");
        road.dig(0, 1, 3);
        Road.due("open on days 0, 1, 2", road.drawn(0, 1, 3, 1), 2);
        Road.due("then shut", road.drawn(0, 1, 30, 1), 2);
        Road.due("ten times the same", road.drawn(0, 10, 30, 1), 20);
        Road.due("it lasts still", road.count(8), 1);
    }
}
