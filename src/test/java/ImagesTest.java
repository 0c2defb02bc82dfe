/** Promises 35 and 36: images, and back to them. */
public final class ImagesTest {
    public static void main(String[] args) {
        refused();
        all();
        whatStays();
        undoing();
        manyActs();
        noSea();
        Road.finish();
    }

    private static void refused() {
        DuneRoad road = Road.on("sea 2;ship 0 9 0");
        Road.due("never made", road.back(0), -1);
        Road.due("image 4", road.image(4), -1);
        Road.due("image -1", road.image(-1), -1);
        Road.due("back 4", road.back(4), -1);
        Road.due("back -1", road.back(-1), -1);
        Road.due("image 3", road.image(3), 0);
        Road.due("another never made", road.back(2), -1);
        Road.due("back", road.back(3), 0);
    }

    private static void all() {
        DuneRoad road = Road.on("sea 3;train 1 0 01;well 0 9 2;town 1 9 2;ship 0 9 9;storm 1 2", "go 1", "fill 1=1");
        road.sail(0, 0);
        road.fill(0);
        road.fence(1, true);
        road.dig(0, 1, 9);
        road.sight(1, true);
        road.told(1, 1, 1);
        road.fleet(1, 2, 3);
        road.seed(9);
        int[] was = new int[17];
        for (int what = 0; what < 17; what++) {
            was[what] = road.count(what);
        }
        Road.due("image", road.image(1), 1);
        road.run(0, 3);
        road.sight(2, true);
        road.told(-1, 1, 1);
        road.fleet(1, 2, 3);
        road.seed(10);
        road.fence(0, true);
        Road.feed(road, "sea 5");
        road.sea();
        Road.due("back to another sea", road.back(1), 1);
        for (int what = 0; what < 17; what++) {
            Road.due("count " + what, road.count(what), was[what]);
        }
        Road.due("cell", road.ship(0, 0), 0);
        Road.due("paid", road.ship(0, 4), 2);
        Road.due("train", road.train(0, 0), 1);
        Road.due("height", road.height(0, 2), 0);
        Road.due("dues", road.order(0), 2);
        Road.due("an image stays", road.back(1), 1);
        road.sail(0, 1);
        Road.due("made anew", road.image(1), 2);
        road.sail(0, 0);
        Road.due("back to that", road.back(1), 2);
        Road.due("cell", road.ship(0, 0), 1);
    }

    private static void whatStays() {
        DuneRoad road = Road.on("sea 2;ship 0 9 9", "go 1");
        road.image(0);
        Road.feed(road, "go 0");
        road.rule();
        road.feed(0, 0, 0, 0, 0);
        road.back(0);
        Road.due("rules", road.count(5), 2);
        Road.due("tape", road.count(17), 20);
        road.sail(0, 0);
        road.image(1);
        Road.due("back", road.back(0), 0);
        Road.due("the other image", road.back(1), 1);
    }

    private static void undoing() {
        DuneRoad road = Road.on("sea 2;ship 0 9 9", "go 1");
        road.fence(0, true);
        road.sail(0, 1);
        road.image(0);
        road.run(0, 2);
        Road.due("none", road.undo(), -2);
        road.fence(1, true);
        road.fence(0, false);
        road.fence(1, false);
        road.back(0);
        Road.due("what can be undone, too", road.count(9), 2);
        Road.due("undo", road.undo(), 1);
        Road.due("cell", road.ship(0, 0), 0);
        Road.due("undo", road.undo(), 0);
        Road.due("no fence", road.count(7), 0);
        Road.due("undone acts are in the image still", road.back(0), 1);
        Road.due("two", road.count(9), 2);
        Road.due("undo", road.undo(), 1);
        Road.due("fence", road.count(7), 1);
    }

    private static void manyActs() {
        DuneRoad road = Road.on("sea 2;ship 0 30 9");
        for (int i = 0; i < 25; i++) {
            road.sail(0, 0);
        }
        Road.due("image of all that can be undone", road.image(0), 25);
        for (int time = 0; time < 2; time++) {
            for (int i = 19; i >= 0; i--) {
                Road.due("undo", road.undo(), i);
                Road.due("day", road.count(6), 5 + i);
            }
            Road.due("none more", road.undo(), -2);
            Road.due("back", road.back(0), 25);
        }
        Road.due("one more", road.sail(0, 0), 26);
        Road.due("undo", road.undo(), 19);
        Road.due("day", road.count(6), 25);
    }

    private static void noSea() {
        DuneRoad road = new DuneRoad();
        Road.due("no sea", road.image(2), 0);
        Road.feed(road, "sea 2;ship 0 9 0;storm 1 2");
        road.sea();
        road.seed(4);
        road.sail(0, 0);
        Road.due("back to none", road.back(2), 0);
        Road.due("no cells", road.count(0), 0);
        Road.due("no of", road.count(15), -1);
        Road.due("no ships", road.ship(0, 0), -2);
        Road.due("x", road.count(16), 0);
        Road.due("nothing to be undone", road.undo(), -2);
    }
}
