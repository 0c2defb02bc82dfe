/** The boundaries of promises 35 (image) and 36 (back). */
public final class ImageBoundsTest {
    public static void main(String[] args) {
        whichImage();
        neverMade();
        ofNoSea();
        allIsAsItWas();
        eachPartOfTheFleet();
        whatCanBeUndone();
        imagesStay();
        rulesAndTapeStay();
        madeAnew();
        Road.finish();
    }

    private static final Bounds.Start[] STATES = {Starts.NEW, Starts.NO_SEA, Starts.RICH, Starts.DRY, Starts.LAST_DAY, Starts.FULL};

    private static void whichImage() {
        Bounds.taken("image", Starts.NEW, 0, 3, -1, DuneRoad::image);
        Bounds.taken("image", Starts.RICH, 0, 3, -1, DuneRoad::image);
        Bounds.taken("back", Starts.FULL, 0, 3, -1, DuneRoad::back);
        Road.due("the day", Bounds.road(Starts.RICH).image(1), 2);
        Road.due("the last day", Bounds.road(Starts.LAST_DAY).image(1), 9999);
        Road.due("day 0", Bounds.road(Starts.NEW).image(1), 0);
    }

    private static void neverMade() {
        Bounds.still("none was made", Starts.NEW, -1, road -> road.back(0));
        Bounds.still("0 and 2 were made, not 1", Starts.RICH, -1, road -> road.back(1));
        Bounds.still("0 and 2 were made, not 3", Starts.RICH, -1, road -> road.back(3));
        Bounds.still("no image 4", Starts.RICH, -1, road -> road.back(4));
        Bounds.still("no image -1", Starts.RICH, -1, road -> road.back(-1));
        Bounds.still("far off", Starts.RICH, -1, road -> road.back(Integer.MAX_VALUE));
        Bounds.still("far off", Starts.RICH, -1, road -> road.back(Integer.MIN_VALUE));
        Road.due("image 0 was made on day 0", Bounds.road(Starts.RICH).back(0), 0);
        Road.due("image 2 was made on day 1", Bounds.road(Starts.RICH).back(2), 1);
    }

    private static void ofNoSea() {
        DuneRoad road = Bounds.road(Starts.NO_SEA);
        road.sea();
        Road.due("a sea", road.count(0), 3);
        road.sail(0, 0);
        Road.due("back to no sea", road.back(1), 0);
        int[] due = {0, 0, 0, 0, 0, 1, 0, 0, 0, 0, 0, 0, 0, 0, 0, -1, 5, 0};
        for (int what = 0; what <= 17; what++) {
            Road.due("count " + what, road.count(what), due[what]);
        }
        Road.due("no round", road.round(), -1);
        Road.due("nothing to be undone", road.undo(), -2);
        Road.due("no days by a rule", road.run(0, 1), -1);
    }

    /** An image made, everything changed, and back: all answers as without. */
    private static void allIsAsItWas() {
        for (Bounds.Start start : STATES) {
            Bounds.same("made and gone back to at once", road -> {
                start.on(road);
                road.image(3);
                road.back(3);
            }, road -> {
                start.on(road);
                road.image(3);
            });
            Bounds.same("gone back to from another sea", road -> {
                start.on(road);
                road.image(3);
                change(road);
                road.back(3);
                road.end(0);
            }, road -> {
                start.on(road);
                road.image(3);
                road.end(0);
            });
        }
    }

    /** All that an image holds is changed; rules stay. */
    private static void change(DuneRoad road) {
        road.fence(0, true);
        road.fence(1, false);
        road.dig(0, 3, 3);
        road.sail(0, 0);
        road.sail(1, 0);
        road.fill(0);
        road.undo();
        road.run(0, 5);
        road.sight(-1, true);
        road.sight(1, true);
        road.told(-1, 0, 0);
        road.told(0, 1, 2);
        road.fleet(-1, 0, 0);
        road.fleet(9, 9, 9);
        road.end(0);
        Road.feed(road, "sea 2;train 3 3 9876;ground 1 9;well 0 1 1;town 0 1 1;ship 1 5 5;storm 7 8");
        road.sea();
        road.fence(0, true);
        road.dig(0, 3, 3);
        road.sail(0, 0);
        road.sight(9, false);
        road.told(1, 1, 1);
        road.fleet(8, 7, 6);
        road.seed(424242);
    }

    /** DAYS, DUE and SPOIL, one changed at a time. */
    private static void eachPartOfTheFleet() {
        int[][] others = {{9, 3, 5}, {2, 9, 5}, {2, 3, 9}};
        for (int[] other : others) {
            DuneRoad road = Road.on("sea 2");
            for (int i = 0; i < 6; i++) {
                road.fleet(2, 3, 5);
            }
            // Six times 2 days, and the spoil of 0 to 5 ahead.
            Road.due("dues", road.order(0), 3 * (6 * 2 + 15 * 5));
            Road.due("image", road.image(0), 0);
            road.fleet(-1, 0, 0);
            for (int i = 0; i < 6; i++) {
                road.fleet(other[0], other[1], other[2]);
            }
            Road.due("other dues", road.order(0), other[1] * (6 * other[0] + 15 * other[2]));
            Road.due("back", road.back(0), 0);
            Road.due("dues as they were", road.order(0), 3 * (6 * 2 + 15 * 5));
        }
    }

    private static void whatCanBeUndone() {
        for (int acts : new int[] {0, 1, 19, 20, 25}) {
            DuneRoad road = Road.on("sea 2;ship 0 30 0", "go 0");
            for (int i = 0; i < acts; i++) {
                road.sail(0, 0);
            }
            int kept = Math.min(20, acts);
            Road.due("image", road.image(0), acts);
            road.run(0, 1);
            Road.due("none", road.count(9), 0);
            Road.due("back", road.back(0), acts);
            Road.due("acts", road.count(9), kept);
            for (int left = kept - 1; left >= 0; left--) {
                Road.due("undo", road.undo(), left);
                Road.due("day", road.count(6), acts - kept + left);
            }
            Road.due("no more", road.undo(), -2);
            Road.due("back again", road.back(0), acts);
            Road.due("acts again", road.count(9), kept);
        }
    }

    /** What is done behind an image changes none of the images. */
    private static void imagesStay() {
        Bounds.Start start = road -> {
            Starts.FULL.on(road);
            road.end(0);
        };
        Bounds.same("all four, changed behind", road -> {
            start.on(road);
            change(road);
            road.back(2);
            road.undo();
            road.undo();
            road.fence(3, false);
            road.back(1);
        }, road -> {
            start.on(road);
            road.back(1);
        });
        // Each image is of its own.
        DuneRoad road = Road.on("sea 2;ship 0 30 0");
        for (int k = 0; k < 4; k++) {
            Road.due("image", road.image(k), k);
            road.sail(0, 0);
        }
        for (int k : new int[] {2, 0, 3, 1, 3, 3, 0}) {
            Road.due("back", road.back(k), k);
            Road.due("day", road.count(6), k);
            Road.due("water", road.ship(0, 1), 30 - k);
            Road.due("acts", road.count(9), k);
        }
    }

    private static void rulesAndTapeStay() {
        DuneRoad road = Road.on("sea 3;ship 0 9 0", "go 0");
        Road.feed(road, "abc");
        road.image(0);
        road.end(0);
        Road.feed(road, "go 1");
        Road.due("a rule behind it", road.rule(), 1);
        Road.feed(road, "go 1 ");
        Road.due("back", road.back(0), 0);
        Road.due("rules stay", road.count(5), 2);
        Road.due("the tape stays", road.count(17), 5);
        Road.due("a day by the new rule", road.run(1, 1), 1);
        Road.due("it went", road.ship(0, 0), 1);
        Road.due("the tape is a rule", road.rule(), 2);
    }

    private static void madeAnew() {
        DuneRoad road = Bounds.road(Starts.FULL);
        road.sail(0, 0);
        Road.due("made anew", road.image(0), 2);
        Road.due("another one is as it was", road.back(1), 1);
        Road.due("the new one", road.back(0), 2);
        // From one of twenty acts to one of none, and the other way round.
        road.end(0);
        Road.feed(road, "sea 2;ship 0 9 9");
        road.sea();
        Road.due("a new sea's", road.image(0), 0);
        road.back(1);
        Road.due("acts", road.count(9), 20);
        Road.due("back", road.back(0), 0);
        Road.due("no acts", road.count(9), 0);
        Road.due("two cells", road.count(0), 2);
        road.back(1);
        Road.due("image of the full one", road.image(0), 1);
        Road.due("undo", road.undo(), 19);
        Road.due("back", road.back(0), 1);
        Road.due("acts", road.count(9), 20);
    }
}
