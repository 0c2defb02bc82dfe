import java.nio.charset.StandardCharsets;

/** A DuneRoad with texts for its tape, and a count of answers that were not as due: what all tests here share. */
final class Road {
    static int wrong = 0;

    private Road() {
    }

    static void due(String what, long got, long want) {
        if (got != want) {
            wrong++;
            System.out.println(what + " answered " + got + ", due is " + want);
        }
    }

    static void due(String what, boolean got, boolean want) {
        due(what, got ? 1 : 0, want ? 1 : 0);
    }

    static void finish() {
        if (wrong != 0) {
            System.out.println(wrong + " answers are not as due");
            System.exit(1);
        }
    }

    static void feed(DuneRoad road, byte[] bytes) {
        int before = road.count(17);
        for (int from = 0; from < bytes.length; from += 20) {
            road.feed(four(bytes, from), four(bytes, from + 4), four(bytes, from + 8), four(bytes, from + 12), four(bytes, from + 16));
        }
        due("the bytes of a text that is fed", road.end(before + bytes.length), before + bytes.length);
    }

    static void feed(DuneRoad road, String text) {
        feed(road, text.getBytes(StandardCharsets.ISO_8859_1));
    }

    private static int four(byte[] bytes, int from) {
        int number = 0;
        for (int i = from; i < from + 4; i++) {
            number = number << 8 | (i < bytes.length ? bytes[i] & 255 : 0);
        }
        return number;
    }

    static DuneRoad on(String sea, String... rules) {
        DuneRoad road = new DuneRoad();
        feed(road, sea);
        int cells = road.sea();
        if (cells < 2) {
            due("sea of " + sea, cells, 2);
        }
        for (String rule : rules) {
            feed(road, rule);
            int number = road.rule();
            if (number < 0) {
                due("rule of " + rule, number, 0);
            }
        }
        return road;
    }

    static int sea(String text) {
        DuneRoad road = new DuneRoad();
        feed(road, text);
        return road.sea();
    }

    static int rule(String text) {
        DuneRoad road = new DuneRoad();
        feed(road, text);
        return road.rule();
    }

    /** What sea and rule answer for a fault. */
    static int fault(int place, int kind) {
        return -2 - (1 + 8 * place + kind);
    }
}
