/** The boundaries of promises 16 (round), 17 (again), 18 (share), 19 (crest) and 28 (rent). */
public final class FindBoundsTest {
    public static void main(String[] args) {
        rounds();
        againWhichAndWhen();
        againNever();
        againWithinARound();
        shareWhich();
        shareOfNoneAndAll();
        crestWhereAndWhen();
        crestNever();
        crestWithinARound();
        rentWhichAndWhen();
        rentOfNoneAndAll();
        diggingsOrNot();
        Road.finish();
    }

    private static Bounds.Start on(String sea) {
        return road -> {
            Road.feed(road, sea);
            road.sea();
        };
    }

    private static void rounds() {
        Bounds.still("no sea", Starts.NEW, -1, DuneRoad::round);
        Bounds.still("no sea", Starts.NO_SEA, -1, DuneRoad::round);
        Bounds.still("no trains", on("sea 2;ship 0 9 9"), 1, DuneRoad::round);
        Bounds.still("5 and 4", Starts.RICH, 20, DuneRoad::round);
        Bounds.still("3, 2 and 2", Starts.FULL, 6, DuneRoad::round);
        Road.due("the shortest row", Road.on("sea 2;train 0 0 01").round(), 2);
        Road.due("the longest row", Road.on("sea 2;train 0 0 01234567890123456789").round(), 20);
        Road.due("three alike", Road.on("sea 2;train 0 0 012;train 1 1 120;train 2 2 201").round(), 3);
        Road.due("12, 18 and 20", Road.on("sea 2;train 0 0 000000000001;train 0 0 000000000000000001;train 0 0 00000000000000000001").round(), 180);
        Road.due("the longest: 17, 19, 20", Road.on(LONGEST).round(), 6460);
        DuneRoad back = Bounds.road(Starts.NEW);
        back.image(0);
        Road.feed(back, "sea 2");
        back.sea();
        back.back(0);
        Road.due("no sea again", back.round(), -1);
    }

    private static final String LONGEST = "sea 2;train 0 0 11111111111111110;train 0 0 1111111111111111110;train 0 0 11111111111111111110;"
            + "well 0 0 1;well 0 1 1;town 0 0 9;town 1 2 9";

    private static void againWhichAndWhen() {
        Bounds.asked("again of a well", Starts.RICH, 0, 2, -1, (road, place) -> road.again(place, 0));
        Bounds.asked("again of a town", Starts.RICH, 4, 5, -1, (road, place) -> road.again(place, 0));
        Bounds.asked("again of eight", Starts.FULL, 0, 7, -1, (road, place) -> road.again(place, 0));
        Bounds.asked("again from day", Starts.RICH, 0, 9999, -1, (road, day) -> road.again(0, day));
        Bounds.asked("again of a town from day", Starts.RICH, 0, 9999, -1, (road, day) -> road.again(5, day));
        Bounds.still("no place and no day", Starts.RICH, -1, road -> road.again(3, 10000));
    }

    private static void againNever() {
        Bounds.Start start = on("sea 2;train 0 0 12;well 0 0 1;town 0 0 1;well 0 1 1;well 1 2 1");
        Bounds.still("a well never", start, -2, road -> road.again(0, 0));
        Bounds.still("a town never", start, -2, road -> road.again(4, 9999));
        Bounds.still("each other day", start, 0, road -> road.again(1, 0));
        Bounds.still("each other day", start, 2, road -> road.again(1, 1));
        Bounds.still("each day", start, 9999, road -> road.again(2, 9999));
        Bounds.still("each other day, beyond 9999", start, 10000, road -> road.again(1, 9999));
        Bounds.still("a place that is not is none", start, -1, road -> road.again(3, 0));
        // By a fence it is open, by one ahead of it never more.
        DuneRoad road = Road.on("sea 2;ground 1 3;well 1 0 1;town 1 3 1");
        Road.due("never", road.again(0, 7), -2);
        road.fence(1, true);
        Road.due("always", road.again(0, 7), 7);
        road.fence(0, true);
        Road.due("never", road.again(0, 7), -2);
        Road.due("as without both", road.again(4, 7), 7);
        // Without trains.
        Road.due("always", Road.on("sea 2;well 0 0 1").again(0, 9999), 9999);
        Road.due("never", Road.on("sea 2;ground 0 1;well 0 0 1").again(0, 9999), -2);
    }

    /** Open on one day of 6460: the last of the round from day 0 on. */
    private static void againWithinARound() {
        DuneRoad road = Road.on(LONGEST);
        Road.due("the last day of a round", road.again(0, 0), 6459);
        Road.due("that day", road.again(0, 6459), 6459);
        Road.due("a round on", road.again(0, 6460), 12919);
        Road.due("from 9999 on", road.again(4, 9999), 12919);
    }

    private static void shareWhich() {
        Bounds.asked("share of a well", Starts.RICH, 0, 2, -1, (road, place) -> road.share(place, 0));
        Bounds.asked("share of a town", Starts.RICH, 4, 5, -1, (road, place) -> road.share(place, 1));
        Bounds.asked("share of eight", Starts.FULL, 0, 7, -1, (road, place) -> road.share(place, 1));
        Bounds.asked("share part", Starts.RICH, 0, 1, -1, (road, part) -> road.share(0, part));
        Bounds.still("no place and no part", Starts.RICH, -1, road -> road.share(3, 2));
    }

    private static void share(String what, DuneRoad road, int place, int above, int below) {
        Road.due(what + ", above", road.share(place, 0), above);
        Road.due(what + ", below", road.share(place, 1), below);
    }

    private static void shareOfNoneAndAll() {
        DuneRoad road = Road.on("sea 2;train 0 0 123456;well 0 0 1;well 0 6 1;well 0 1 1;well 0 5 1;town 0 3 1;town 0 4 1;town 0 2 1");
        share("on no day", road, 0, 0, 1);
        share("on all days", road, 1, 1, 1);
        share("on one", road, 2, 1, 6);
        share("on all but one", road, 3, 5, 6);
        share("on three", road, 4, 1, 2);
        share("on four", road, 5, 2, 3);
        share("on two", road, 6, 1, 3);
        DuneRoad none = Road.on("sea 2;ground 0 1;well 0 0 1;well 0 1 1");
        share("without trains on none", none, 0, 0, 1);
        share("without trains on all", none, 1, 1, 1);
        DuneRoad longest = Road.on(LONGEST);
        share("one of 6460", longest, 0, 1, 6460);
        // Two trains or all are 0: 16, 18, 19 days and one, 54 of 6460.
        share("in lowest terms", longest, 1, 27, 3230);
    }

    private static void crestWhereAndWhen() {
        Bounds.asked("crest of cell", Starts.FULL, 0, 11, -1, (road, cell) -> road.crest(cell, 0));
        Bounds.asked("crest of cell", Starts.RICH, 0, 4, -1, (road, cell) -> road.crest(cell, 0));
        Bounds.asked("crest from day", Starts.RICH, 0, 9999, -1, (road, day) -> road.crest(0, day));
        Bounds.still("no cell and no day", Starts.RICH, -1, road -> road.crest(5, 10000));
    }

    private static void crestNever() {
        Bounds.still("no trains", on("sea 2;ground 0 5"), -2, road -> road.crest(0, 0));
        Bounds.still("no trains, no cell", on("sea 2;ground 0 5"), -1, road -> road.crest(2, 0));
        Bounds.still("no trains, no day", on("sea 2;ground 0 5"), -1, road -> road.crest(0, 10000));
        Bounds.Start never = on("sea 2;train 0 0 01;train 1 1 01");
        // In cell 0 one is at d, the other at d + 1; in cell 1 both are at d.
        Bounds.still("never at once", never, -2, road -> road.crest(0, 0));
        Bounds.still("never at once", never, -2, road -> road.crest(0, 9999));
        Bounds.still("in the other cell", never, 1, road -> road.crest(1, 0));
        Road.due("the day itself", Bounds.road(never).crest(1, 9999), 9999);
        Road.due("beyond 9999", Road.on("sea 2;train 0 0 10").crest(0, 9999), 10000);
        Road.due("a row of zeros", Road.on("sea 2;train 0 0 00").crest(1, 9999), 9999);
        Road.due("nines", Road.on("sea 2;train 0 0 99").crest(1, 3), 3);
        Road.due("its greatest height, not 9", Road.on("sea 2;train 0 0 010").crest(0, 2), 4);
    }

    private static void crestWithinARound() {
        DuneRoad road = Road.on("sea 2;train 0 0 00000000000000001;train 0 0 0000000000000000002;train 0 0 00000000000000000009");
        Road.due("the last day of a round", road.crest(0, 0), 6459);
        Road.due("that day", road.crest(0, 6459), 6459);
        Road.due("a round on", road.crest(0, 6460), 12919);
        road.fence(0, true);
        road.fence(1, true);
        Road.due("fences are no trains", road.crest(0, 0), 6459);
        Road.due("fences are no trains", road.crest(1, 0), 6459);
    }

    private static void rentWhichAndWhen() {
        Bounds.asked("rent of town", Starts.RICH, 0, 1, -1, (road, town) -> road.rent(town, 0, 1));
        Bounds.asked("rent of four", Starts.FULL, 0, 3, -1, (road, town) -> road.rent(town, 0, 400));
        Bounds.asked("rent from day", Starts.RICH, 0, 9999, -1, (road, day) -> road.rent(0, day, 400));
        Bounds.asked("rent for days", Starts.RICH, 0, 400, -1, (road, n) -> road.rent(0, 0, n));
        Bounds.asked("rent for days from the last on", Starts.RICH, 0, 400, -1, (road, n) -> road.rent(1, 9999, n));
        Bounds.still("no towns", on("sea 2;well 0 60 1;well 0 60 1;well 0 60 1;well 0 60 1"), -1, road -> road.rent(0, 0, 1));
        Bounds.still("nothing is right", Starts.RICH, -1, road -> road.rent(2, 10000, 401));
    }

    private static void rentOfNoneAndAll() {
        DuneRoad road = Road.on("sea 2;train 0 0 01;town 0 0 99;town 0 1 99;town 1 0 1;ground 1 1");
        Road.due("no days", road.rent(1, 0, 0), 0);
        Road.due("400 days of the highest rent", road.rent(1, 9999, 400), 39600);
        Road.due("each other day", road.rent(0, 0, 400), 19800);
        Road.due("one day, open", road.rent(0, 0, 1), 99);
        Road.due("one day, shut", road.rent(0, 1, 1), 0);
        Road.due("one day beyond 9999", road.rent(0, 9999, 2), 99);
        Road.due("on no day", road.rent(2, 0, 400), 0);
    }

    /** No DIGGINGS in again, share and crest; as told in rent. */
    private static void diggingsOrNot() {
        DuneRoad road = Road.on("sea 2;train 0 0 01;ground 0 5;well 0 4 1;town 0 4 7;ship 1 30 0");
        road.dig(0, 20, 3);
        Road.due("open now", road.place(0, 3), 1);
        Road.due("again", road.again(0, 0), -2);
        Road.due("again", road.again(4, 0), -2);
        Road.due("share", road.share(0, 0), 0);
        Road.due("crest", road.crest(0, 0), 1);
        Road.due("rent while it lasts", road.rent(0, 0, 3), 21);
        Road.due("and no longer", road.rent(0, 0, 400), 21);
        Road.due("behind it", road.rent(0, 3, 400), 0);
        road.sail(0, 0);
        Road.due("its past days count as long as it lasts", road.rent(0, 0, 400), 21);
        road.sail(0, 0);
        road.sail(0, 0);
        Road.due("over: on no day", road.rent(0, 0, 400), 0);
    }
}
