/** The boundaries of promises 29 (fleet), 30 (order) and 31 (storms). */
public final class FleetBoundsTest {
    public static void main(String[] args) {
        fleetWhat();
        sixInTheFleet();
        noneThen();
        orderOfWhat();
        orderOfNoneAndAll();
        theFirstRow();
        stormsOfDays();
        stormsOfNoneAndAll();
        stormsAtTheEnds();
        Road.finish();
    }

    private static Bounds.Start on(String sea) {
        return road -> {
            Road.feed(road, sea);
            road.sea();
        };
    }

    private static void fleetWhat() {
        for (int days : new int[] {0, -2, 100, 101, Integer.MIN_VALUE, Integer.MAX_VALUE}) {
            Bounds.still("fleet of days " + days, Starts.RICH, -2, road -> road.fleet(days, 1, 1));
        }
        Road.due("days 1", Bounds.road(Starts.RICH).fleet(1, 1, 1), 3);
        Road.due("days 99", Bounds.road(Starts.RICH).fleet(99, 1, 1), 3);
        Bounds.taken("fleet with due", Starts.RICH, 0, 99, -2, (road, due) -> road.fleet(1, due, 1));
        Bounds.taken("fleet with spoil", Starts.RICH, 0, 99, -2, (road, spoil) -> road.fleet(1, 1, spoil));
        Bounds.still("nothing is right", Starts.RICH, -2, road -> road.fleet(0, 100, 100));
        Bounds.still("no sea", Starts.NEW, -2, road -> road.fleet(1, 1, 1));
        Bounds.still("no sea", Starts.NO_SEA, -2, road -> road.fleet(99, 99, 99));
    }

    private static void sixInTheFleet() {
        DuneRoad road = Road.on("sea 2");
        for (int i = 1; i <= 6; i++) {
            Road.due("fleet", road.fleet(i, 1, 0), i);
            Road.due("so many", road.count(12), i);
            Road.due("dues", road.order(0), i * (i + 1) / 2);
        }
        Road.due("a seventh", road.fleet(1, 1, 1), -2);
        Bounds.still("a seventh", Starts.FULL, -2, start -> start.fleet(1, 1, 1));
        Bounds.still("a seventh that is not right", Starts.FULL, -2, start -> start.fleet(0, 1, 1));
    }

    /** days NONE: there is none then, whatever the others are, and all else stays. */
    private static void noneThen() {
        Bounds.still("none of none", Starts.NEW, 0, road -> road.fleet(-1, 0, 0));
        Bounds.still("none of none", Starts.NO_SEA, 0, road -> road.fleet(-1, 100, -1));
        Bounds.still("none of none on a sea", on("sea 2"), 0, road -> road.fleet(-1, -1, 100));
        for (Bounds.Start start : new Bounds.Start[] {Starts.RICH, Starts.FULL}) {
            DuneRoad road = Bounds.road(start);
            Road.due("none", road.fleet(-1, Integer.MIN_VALUE, Integer.MAX_VALUE), 0);
            Road.due("none", road.count(12), 0);
            Road.due("no dues", road.order(0), 0);
            Road.due("nobody", road.order(1), -2);
            Road.due("one again", road.fleet(5, 7, 9), 1);
            Road.due("its dues", road.order(0), 35);
        }
        Bounds.same("told and taken away", road -> {
            Starts.read(road);
            road.fleet(3, 3, 3);
            road.fleet(-1, 0, 0);
        }, Starts::read);
    }

    private static void orderOfWhat() {
        Bounds.asked("order of what", Starts.FULL, 0, 6, -1, DuneRoad::order);
        Bounds.asked("order of what, of two", Starts.RICH, 0, 6, -1, DuneRoad::order);
        Bounds.still("no sea", Starts.NO_SEA, -1, road -> road.order(0));
        Bounds.still("no sea, no what", Starts.NO_SEA, -1, road -> road.order(7));
        for (int size = 0; size <= 6; size++) {
            DuneRoad road = Road.on("sea 2");
            for (int i = 0; i < size; i++) {
                road.fleet(1, 1, 1);
            }
            for (int what = 1; what <= 6; what++) {
                Road.due("place " + what + " of " + size, road.order(what), what <= size ? what - 1 : -2);
            }
            Road.due("place 7 of " + size, road.order(7), -1);
            Road.due("place -1 of " + size, road.order(-1), -1);
        }
    }

    private static void orderOfNoneAndAll() {
        Road.due("dues of none", Road.on("sea 2").order(0), 0);
        DuneRoad one = Road.on("sea 2");
        one.fleet(99, 99, 99);
        Road.due("dues of one: no spoil", one.order(0), 9801);
        Road.due("alone", one.order(1), 0);
        Road.due("nobody behind it", one.order(2), -2);
        DuneRoad six = Road.on("sea 2");
        for (int i = 0; i < 6; i++) {
            six.fleet(99, 99, 99);
        }
        Road.due("the most dues that can be", six.order(0), 9801 * (6 + 15));
        DuneRoad none = Road.on("sea 2");
        none.fleet(99, 0, 99);
        none.fleet(99, 0, 99);
        Road.due("no dues", none.order(0), 0);
        Road.due("as told", none.order(1), 0);
    }

    /** Of several rows that are least the first, as a row of numbers. */
    private static void theFirstRow() {
        DuneRoad back = Road.on("sea 2");
        for (int i = 0; i < 6; i++) {
            back.fleet(1, 1 + i, 9 - i);
        }
        // The later told, the more due and the less spoil: just the other way round.
        for (int place = 1; place <= 6; place++) {
            Road.due("place " + place, back.order(place), 6 - place);
        }
        DuneRoad tie = Road.on("sea 2");
        tie.fleet(5, 2, 4);
        tie.fleet(9, 1, 2);
        // 10 and 9 and 1 * 4, or 9 and 10 and 2 * 2: alike.
        Road.due("dues", tie.order(0), 23);
        Road.due("the first", tie.order(1), 0);
        Road.due("then", tie.order(2), 1);
        DuneRoad less = Road.on("sea 2");
        less.fleet(5, 2, 5);
        less.fleet(9, 1, 2);
        // 1 * 5 or 2 * 2.
        Road.due("dues", less.order(0), 23);
        Road.due("by one less", less.order(1), 1);
        Road.due("then", less.order(2), 0);
        DuneRoad free = Road.on("sea 2");
        free.fleet(1, 0, 0);
        free.fleet(1, 5, 5);
        free.fleet(1, 0, 0);
        // Who has neither due nor spoil may be anywhere: 0, 1, 2.
        for (int place = 1; place <= 3; place++) {
            Road.due("place " + place, free.order(place), place - 1);
        }
        DuneRoad last = Road.on("sea 2");
        last.fleet(1, 0, 1);
        last.fleet(1, 1, 0);
        last.fleet(1, 0, 0);
        // 1 ahead of 0, for it would be spoilt by 1; of 1, 0, 2 and 1, 2, 0 and 2, 1, 0 the first.
        int[] row = {1, 0, 2};
        for (int place = 1; place <= 3; place++) {
            Road.due("place " + place, last.order(place), row[place - 1]);
        }
    }

    private static void stormsOfDays() {
        Bounds.asked("storms of days", Starts.RICH, 0, 12, -1, (road, n) -> road.storms(n, 0, 0));
        Bounds.asked("storms of so many", Starts.RICH, 0, 13, -1, (road, k) -> road.storms(12, k, 0));
        Bounds.asked("storms of so many of no days", Starts.RICH, 0, 13, -1, (road, k) -> road.storms(0, k, 1));
        Bounds.asked("storms part", Starts.RICH, 0, 1, -1, (road, part) -> road.storms(5, 2, part));
        Bounds.still("nothing is right", Starts.RICH, -1, road -> road.storms(13, 14, 2));
        Bounds.still("no sea", Starts.NEW, -1, road -> road.storms(0, 0, 0));
        Bounds.still("no sea", Starts.NO_SEA, -1, road -> road.storms(0, 0, 1));
    }

    private static void fraction(String what, DuneRoad road, int n, int k, long above, long below) {
        Road.due(what + ", above", road.storms(n, k, 0), above);
        Road.due(what + ", below", road.storms(n, k, 1), below);
    }

    private static void stormsOfNoneAndAll() {
        for (String storm : new String[] {"", ";storm 0 1", ";storm 0 9", ";storm 5 9", ";storm 9 9"}) {
            DuneRoad road = Road.on("sea 2" + storm);
            for (int n = 0; n <= 12; n++) {
                fraction("0 or more of " + n + storm, road, n, 0, 1, 1);
                fraction("more than all of " + n + storm, road, n, n + 1, 0, 1);
                fraction("13 of " + n + storm, road, n, 13, 0, 1);
            }
        }
        DuneRoad sure = Road.on("sea 2;storm 1 1");
        DuneRoad never = Road.on("sea 2;storm 0 7");
        for (int n = 1; n <= 12; n++) {
            fraction("all of " + n, sure, n, n, 1, 1);
            fraction("one of " + n, never, n, 1, 0, 1);
        }
    }

    private static void stormsAtTheEnds() {
        DuneRoad half = Road.on("sea 2;storm 4 8");
        fraction("in lowest terms", half, 12, 12, 1, 4096);
        fraction("all but none", half, 12, 1, 4095, 4096);
        DuneRoad nine = Road.on("sea 2;storm 8 9");
        fraction("the greatest below the line", nine, 12, 12, 68719476736L, 282429536481L);
        fraction("the greatest above it", nine, 12, 1, 282429536480L, 282429536481L);
        DuneRoad one = Road.on("sea 2;storm 1 9");
        fraction("one of twelve to the twelfth", one, 12, 12, 1, 282429536481L);
        fraction("eleven or more", one, 12, 11, 97, 282429536481L);
        fraction("one day", one, 1, 1, 1, 9);
    }
}
