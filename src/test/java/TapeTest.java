/** Promises 1, 2, 3 and what 4 and 5 do to the tape. */
public final class TapeTest {
    public static void main(String[] args) {
        newObject();
        feeding();
        ending();
        reading();
        fullOfSigns();
        Road.finish();
    }

    private static void newObject() {
        DuneRoad road = new DuneRoad();
        for (int what = 0; what <= 17; what++) {
            Road.due("new count " + what, road.count(what), what == 15 ? -1 : 0);
        }
        Road.due("new round", road.round(), -1);
    }

    private static void feeding() {
        DuneRoad road = new DuneRoad();
        for (int i = 1; i <= 20; i++) {
            Road.due("feed " + i, road.feed(0, 0, 0, 0, 0), 20 * i);
        }
        Road.due("feed above 400", road.feed(0, 0, 0, 0, 0), -1);
        Road.due("tape full", road.count(17), 400);
        Road.due("end 381", road.end(381), 381);
        Road.due("feed that would be 401", road.feed(0, 0, 0, 0, 0), -1);
        Road.due("tape stays", road.count(17), 381);
        Road.due("end 380", road.end(380), 380);
        Road.due("feed that is 400", road.feed(0, 0, 0, 0, 0), 400);
        road.end(0);
        // "sea 2": the highest byte of a number comes first.
        road.feed(0x73656120, 0x32000000, 0, 0, 0);
        road.end(5);
        Road.due("sea by bytes", road.sea(), 2);
    }

    private static void ending() {
        DuneRoad road = new DuneRoad();
        Road.due("end 0 of none", road.end(0), 0);
        Road.due("end 1 of none", road.end(1), -1);
        Road.due("end below 0", road.end(-1), -1);
        road.feed(0, 0, 0, 0, 0);
        Road.due("end 21", road.end(21), -1);
        Road.due("end least", road.end(Integer.MIN_VALUE), -1);
        Road.due("stays", road.count(17), 20);
        Road.due("end 20", road.end(20), 20);
        Road.due("end 7", road.end(7), 7);
        Road.due("has 7", road.count(17), 7);
    }

    private static void reading() {
        DuneRoad road = new DuneRoad();
        Road.feed(road, "sea 1");
        Road.due("fault", road.sea(), Road.fault(4, 1));
        Road.due("empty behind a fault of sea", road.count(17), 0);
        Road.feed(road, "go");
        Road.due("fault", road.rule(), Road.fault(2, 0));
        Road.due("empty behind a fault of rule", road.count(17), 0);
        for (int i = 0; i < 6; i++) {
            Road.feed(road, "go 1");
            Road.due("rule " + i, road.rule(), i);
            Road.due("empty behind rule", road.count(17), 0);
        }
        Road.feed(road, "go");
        Road.due("a seventh rule", road.rule(), -1);
        Road.due("nothing happens", road.count(17), 2);
        Road.due("six rules", road.count(5), 6);
    }

    /** As many pieces as there can be: each byte of a full tape is one of its own. */
    private static void fullOfSigns() {
        for (String sign : new String[] {";", "=", "[", "]", "\0", "a;", "1+", " +"}) {
            String text = sign.repeat(400 / sign.length());
            Road.due("sea of 400 bytes " + sign, Road.sea(text), Road.fault(text.startsWith(" ") ? 1 : 0, 0));
            Road.due("rule of 400 bytes " + sign, Road.rule(text), Road.fault(text.startsWith(" ") ? 1 : 0, 0));
        }
        String blanks = " ".repeat(394);
        Road.due("sea at the tape's end", Road.sea(blanks + " sea 4"), 4);
        Road.due("sea that the tape's end cuts", Road.sea(blanks + "   sea"), Road.fault(400, 0));
        Road.due("rule at the tape's end", Road.rule(blanks + "  go 1"), 0);
        Road.due("rule that the tape's end cuts", Road.rule("fill" + " ".repeat(394) + "1<"), Road.fault(400, 0));
        Road.due("rule that the tape's end cuts", Road.rule("fill" + " ".repeat(393) + "1<="), Road.fault(400, 0));
    }
}
