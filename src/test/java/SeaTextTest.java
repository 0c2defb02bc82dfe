/** Promise 4: what a sea's text may be, its faults, and what a new sea does to all else. */
public final class SeaTextTest {
    public static void main(String[] args) {
        rightTexts();
        numbersAsTold();
        wordsAndSigns();
        rows();
        tooMany();
        newSea();
        faultChangesNothing();
        Road.finish();
    }

    private static void right(String text, int cells) {
        Road.due("sea of '" + text + "'", Road.sea(text), cells);
    }

    private static void wrong(String text, int place, int kind) {
        Road.due("sea of '" + text + "'", Road.sea(text), Road.fault(place, kind));
    }

    private static void rightTexts() {
        right("sea 2", 2);
        right("sea 12", 12);
        right("  sea   7  ", 7);
        right("sea5", 5);
        right("sea 00012", 12);
        right("sea 3;ground 2 20;ground 2 0;ground 0 5", 3);
        right("sea 3;train 9 29 01;train0 0 99999999999999999999;train 1 1 55", 3);
        right("sea2;well1 60 99;well 0 0 1;well 0 0 1;well 0 0 1", 2);
        right("sea 2;town 1 60 99;town 0 0 1;town 0 0 1;town 0 0 1", 2);
        right("sea 2 ; ship 1 30 20 ; ship 0 1 0 ; ship 0 1 0 ; ship 0 1 0", 2);
        right("sea 2;storm 9 9", 2);
        right("sea 2;storm 0 1", 2);
        right("sea 2;storm 9 9;ship 0 1 0;town 0 0 1;well 0 0 1;ground 0 1;train 0 0 12", 2);
        right("sea 2" + ";ground 0 0".repeat(35), 2);
    }

    private static void numbersAsTold() {
        wrong("sea 1", 4, 1);
        wrong("sea 13", 4, 1);
        wrong("sea 0", 4, 1);
        wrong("sea 000012", 4, 1);
        wrong("sea 99999999999999999999", 4, 1);
        wrong("sea 4;ground 4 0", 13, 1);
        wrong("sea 4;ground 3 21", 15, 1);
        wrong("sea 4;train 10 0 12", 12, 1);
        wrong("sea 4;train 0 30 12", 14, 1);
        wrong("sea 4;well 4 0 1", 11, 1);
        wrong("sea 4;well 0 61 1", 13, 1);
        wrong("sea 4;well 0 0 0", 15, 1);
        wrong("sea 4;well 0 0 100", 15, 1);
        wrong("sea 4;town 4 0 1", 11, 1);
        wrong("sea 4;town 0 61 1", 13, 1);
        wrong("sea 4;town 0 0 0", 15, 1);
        wrong("sea 4;town 0 0 100", 15, 1);
        wrong("sea 4;ship 4 1 0", 11, 1);
        wrong("sea 4;ship 0 0 0", 13, 1);
        wrong("sea 4;ship 0 31 0", 13, 1);
        wrong("sea 4;ship 0 1 21", 15, 1);
        wrong("sea 4;storm 10 9", 12, 1);
        wrong("sea 4;storm 0 0", 14, 1);
        wrong("sea 4;storm 0 10", 14, 1);
        wrong("sea 4;storm 3 2", 14, 1);
        // The first along the text, though a worse one comes behind it.
        wrong("sea 4;well 9 3", 11, 1);
        wrong("sea 1;foo", 4, 1);
    }

    private static void wordsAndSigns() {
        wrong("", 0, 0);
        wrong("   ", 3, 0);
        wrong("sea", 3, 0);
        wrong("sea  ", 5, 0);
        wrong("seas 4", 0, 0);
        wrong("seaz 4", 0, 0);
        wrong(" sae 4", 1, 0);
        wrong("Sea 4", 0, 0);
        wrong("seA 4", 0, 0);
        wrong("sea x", 4, 0);
        wrong("sea -4", 4, 0);
        wrong("sea 4,", 5, 0);
        wrong("sea 4 5", 6, 0);
        wrong("sea 4x", 5, 0);
        wrong("sea 4;", 6, 0);
        wrong("sea 4; ", 7, 0);
        wrong("sea 4;;", 6, 0);
        wrong("sea 4;4", 6, 0);
        wrong("sea 4;go 1", 6, 0);
        wrong("sea 4;cell 1", 6, 0);
        wrong("sea 4;grounds 1 1", 6, 0);
        wrong("sea 4\t;", 5, 0);
        wrong("sea 4" + (char) 0, 5, 0);
        wrong("sea 4" + (char) 255, 5, 0);
        wrong("sea 4;ship 0 1", 14, 0);
        wrong("sea 4;ship 0 1 ;", 15, 0);
        wrong("sea 4;ship 0 1 0 0", 17, 0);
    }

    private static void rows() {
        wrong("sea 4;train 0 0", 15, 0);
        wrong("sea 4;train 0 0  ", 17, 0);
        wrong("sea 4;train 0 0 x", 16, 0);
        wrong("sea 4;train 0 0;", 15, 0);
        wrong("sea 4;train 0 0 1", 16, 1);
        wrong("sea 4;train 0 0 1 2", 16, 1);
        wrong("sea 4;train 0 0 111111111111111111111", 16, 1);
        wrong("sea 4;train 0 0 12 3", 19, 0);
        wrong("sea 4;train 0 0 12a", 18, 0);
        right("sea 4;train 0 0 12345678901234567890", 4);
    }

    private static void tooMany() {
        wrong("train 0 0 12", 0, 4);
        wrong("  ground 0 0;sea 4", 2, 4);
        wrong("foo 0 0;sea 4", 0, 0);
        wrong("sea 4;sea 4", 6, 4);
        wrong("sea 4; sea 1", 7, 4);
        wrong("sea 4;storm 0 1;storm 0 1", 16, 4);
        String train = ";train 0 0 12";
        wrong("sea 4" + train.repeat(4), 6 + 3 * train.length(), 4);
        String well = ";well 0 0 1";
        wrong("sea 4" + well.repeat(5), 6 + 4 * well.length(), 4);
        String town = ";town 0 0 1";
        wrong("sea 4" + town.repeat(5), 6 + 4 * town.length(), 4);
        String ship = ";ship 0 1 0";
        wrong("sea 4" + ship.repeat(5), 6 + 4 * ship.length(), 4);
        String ground = ";ground0 0";
        String forty = "sea 2" + ground.repeat(39);
        Road.due("that is 395 bytes", forty.length(), 395);
        right(forty, 2);
        wrong(forty + ";x", 396, 0);
        wrong(forty + ";sea", 396, 4);
        wrong(forty + ";ship", 396, 4);
        wrong(forty + ";", 396, 0);
    }

    private static void newSea() {
        DuneRoad road = Road.on("sea 3;train 1 2 12;ground 0 4;well 0 9 1;town 0 9 1;ship 0 9 5;storm 1 2", "go 1");
        road.fence(1, true);
        road.dig(0, 1, 9);
        road.sail(0, 0);
        road.sight(0, true);
        road.told(0, 0, 0);
        road.fleet(1, 1, 1);
        road.seed(77);
        Road.feed(road, "sea 5;ship 2 4 1");
        Road.due("another sea", road.sea(), 5);
        int[] due = {5, 0, 0, 0, 1, 1, 0, 0, 0, 0, 0, 0, 0, 0, 0, 1, 77, 0};
        for (int what = 0; what < due.length; what++) {
            Road.due("count of another sea " + what, road.count(what), due[what]);
        }
        Road.due("no ground", road.height(0, 0), 0);
        Road.due("nothing to be undone", road.undo(), -2);
        Road.due("ship", road.ship(0, 0), 2);
        Road.due("its water is its tank", road.ship(0, 1), 4);
        Road.due("of several grounds the last", Road.on("sea 2;ground 1 7;ground 1 3").height(1, 0), 3);
        Road.due("no ground is 0", Road.on("sea 2;ground 1 7").height(0, 0), 0);
    }

    private static void faultChangesNothing() {
        DuneRoad road = Road.on("sea 3;train 1 2 12;ground 0 4;well 0 9 1;ship 0 9 5;storm 1 2");
        road.fence(1, true);
        road.sail(0, 0);
        int[] was = new int[18];
        for (int what = 0; what < 18; what++) {
            was[what] = road.count(what);
        }
        Road.feed(road, "sea 5;ground 0 9;train 3 3 999;ship 0 1 1;ship 0 1 1;storm 2 3;ship 5 1 1");
        Road.due("fault", road.sea(), Road.fault(68, 1));
        for (int what = 0; what < 18; what++) {
            Road.due("stays " + what, road.count(what), was[what]);
        }
        Road.due("height stays", road.height(0, 0), 5);
        Road.feed(road, "sea 4;ground 1 1");
        Road.due("behind it", road.sea(), 4);
        Road.due("nothing is left of the faulty one", road.height(0, 0), 0);
        Road.due("no ships are left of it", road.count(4), 0);
        Road.due("no storm is left of it", road.count(14), 0);
        Road.due("no storm is left of it", road.count(15), 1);
        Road.due("no trains are left of it", road.round(), 1);
        Road.feed(road, "sea 5;train 3 3 99999;storm 2 3;ship 5 1 1");
        Road.due("fault", road.sea(), Road.fault(37, 1));
        Road.feed(road, "sea 4;train 0 0 12");
        Road.due("behind it", road.sea(), 4);
        Road.due("its own greatest height", road.train(0, 3), 2);
        Road.due("its own round", road.round(), 2);
        Road.due("its own crest", road.crest(0, 0), 1);
        Road.due("no storm", road.storms(3, 0, 1), 1);
    }
}
