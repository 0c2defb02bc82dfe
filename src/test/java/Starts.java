/** States that calls are refused in: each is a run of calls on a new object. */
final class Starts {
    /** Five cells, two trains, three wells, two towns, three ships: of each kind there could be more. */
    static final String RICH_SEA = "sea 5;train 1 2 03142;train 2 1 2041;ground 0 2;ground 2 4;ground 4 1;well 0 10 3;well 2 12 2;well 4 60 5;"
            + "town 1 8 7;town 3 6 9;ship 0 9 6;ship 2 12 9;ship 4 30 20;storm 1 3";
    static final String[] RICH_RULES = {"fill water<4;go day%3-1", "go 1 if on<=height;go 0-1", "fill 1=1"};

    static final Bounds.Start NEW = road -> { };
    static final Bounds.Start NO_SEA = Starts::noSea;
    static final Bounds.Start RICH = Starts::rich;
    static final Bounds.Start RICH_WITHOUT_TAPE = Starts::richWithoutTape;
    static final Bounds.Start DRY = Starts::dry;
    static final Bounds.Start LAST_BUT_ONE = Starts::lastButOne;
    static final Bounds.Start LAST_DAY = Starts::lastDay;
    static final Bounds.Start FULL = Starts::full;

    private Starts() {
    }

    /** No SEA, but all that can be without one. */
    private static void noSea(DuneRoad road) {
        Road.feed(road, "go 1");
        road.rule();
        road.seed(5);
        road.image(1);
        road.seed(6);
        Road.feed(road, "sea 3;ship 0 9 9");
    }

    private static void read(DuneRoad road, String sea, String... rules) {
        Road.feed(road, sea);
        road.sea();
        for (String rule : rules) {
            Road.feed(road, rule);
            road.rule();
        }
    }

    /** A SEA as it was told, RULES, and x. */
    static void read(DuneRoad road) {
        read(road, RICH_SEA, RICH_RULES);
        road.seed(12345);
    }

    /** Some of all that can be, and no IMAGES. */
    static void richWithoutImages(DuneRoad road) {
        read(road);
        road.sail(1, 0);
        road.fence(1, true);
        road.fill(0);
        road.dig(2, 3, 9);
        road.sail(2, 0);
        road.dig(3, 2, 2);
        tell(road);
    }

    private static void tell(DuneRoad road) {
        road.sight(0, true);
        road.sight(3, false);
        road.told(0, 0, 5);
        road.fleet(3, 2, 5);
        road.fleet(1, 4, 1);
    }

    /** Some of all that can be; bytes on the TAPE, too. */
    private static void rich(DuneRoad road) {
        read(road);
        road.image(0);
        road.sail(1, 0);
        road.fence(1, true);
        road.fill(0);
        tell(road);
        road.image(2);
        road.dig(2, 3, 9);
        road.sail(2, 0);
        road.dig(3, 2, 2);
        road.seed(777);
        Road.feed(road, "sea 3;ground 1 7;ship 0 9 9");
    }

    /** The same with nothing on the TAPE. */
    private static void richWithoutTape(DuneRoad road) {
        rich(road);
        road.end(0);
    }

    /** SHIP 0 is DRY at an OPEN WELL, SHIP 1 has WATER, SHIP 2 has none and is not DRY; it is DAY 2. */
    private static void dry(DuneRoad road) {
        read(road, "sea 3;well 0 60 2;ship 0 1 5;ship 1 9 5;ship 2 2 5", "fill 1=1;go 1");
        road.sail(1, 0);
        road.sail(1, 0);
    }

    /** DAY 9998, by a RULE. */
    private static void lastButOne(DuneRoad road) {
        read(road, "sea 4;train 1 0 0123;well 0 60 1;town 1 2 5;ship 0 30 9;ship 1 1 9;storm 1 2", "fill 1=1");
        for (int i = 0; i < 99; i++) {
            road.run(0, 100);
        }
        road.run(0, 98);
    }

    /** DAY 9999, with ACTS that can be UNDONE. */
    private static void lastDay(DuneRoad road) {
        lastButOne(road);
        road.fence(2, true);
        road.sail(0, 0);
        road.dig(1, 1, 30);
    }

    /** As many of all as there can be: 400 bytes, 6 RULES, 8 DIGGINGS, 20 ACTS, 10 SIGHTS, 10 HEIGHTS, 6 in the FLEET, 4 IMAGES. */
    private static void full(DuneRoad road) {
        read(road, "sea 12;train 1 2 031;train 2 1 20;train 0 0 10;well 0 60 3;well 1 12 2;well 2 9 5;well 3 5 1;town 4 8 7;town 5 6 9;"
                + "town 6 7 1;town 11 9 2;ship 0 30 6;ship 2 12 9;ship 4 30 20;ship 11 30 0;storm 2 5",
                "go 1", "go 0", "fill 1=1", "fill water<9;go 0-1", "go 1 if on<height", "go day%2");
        road.seed(2147483647);
        for (int i = 0; i < 14; i++) {
            road.fence(i % 12, i < 12);
        }
        road.sail(0, 0);
        for (int i = 0; i < 8; i++) {
            road.dig(i, 1 + i, 23 + i);
        }
        for (int i = 0; i < 10; i++) {
            road.sight(i, i != 3);
            road.told(i % 3, i, i);
        }
        for (int i = 0; i < 6; i++) {
            road.fleet(9 - i, 3 + i, 4);
        }
        for (int k = 0; k < 4; k++) {
            road.image(k);
        }
        for (int i = 0; i < 20; i++) {
            road.feed(0x73656120, 0x32202020, 0x20202020, 0x20202020, 0x20202020);
        }
    }
}
