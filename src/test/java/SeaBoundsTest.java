/** The boundaries of a SEA's text (terms I) and of promise 4 (sea). */
public final class SeaBoundsTest {
    public static void main(String[] args) {
        cells();
        trains();
        grounds();
        wells();
        towns();
        ships();
        storms();
        rows();
        manyOfAKind();
        manyClauses();
        seaOnceAndFirst();
        theEnd();
        blanks();
        words();
        firstAlongTheText();
        ofOnePlaceTheLeast();
        fullTape();
        inPlaceOfTheOld();
        whatIsNotTold();
        Road.finish();
    }

    private static DuneRoad read(String text) {
        DuneRoad road = new DuneRoad();
        Road.feed(road, text);
        int cells = road.sea();
        Road.due("sea of '" + text + "' is taken", cells >= 2, true);
        return road;
    }

    /** A fault in a rich state: all stays but the tape. */
    private static void wrong(String text, int place, int kind) {
        Bounds.still("sea of '" + text + "'", Starts.RICH_WITHOUT_TAPE, Road.fault(place, kind), road -> {
            Road.feed(road, text);
            return road.sea();
        });
    }

    /** The number at %s: what is taken is told by seen; beside it is a fault, as are six digits and none. */
    private static void number(String text, int low, int high, Bounds.Call seen) {
        int place = text.indexOf("%s");
        for (int number : new int[] {low, low + 1, high - 1, high}) {
            if (number >= low && number <= high) {
                Road.due(text + " by " + number, seen.on(read(text.replace("%s", "" + number))), number);
            }
        }
        Road.due(text + " by five digits", seen.on(read(text.replace("%s", String.format("%05d", high)))), high);
        wrong(text.replace("%s", String.format("%06d", high)), place, 1);
        wrong(text.replace("%s", "" + (high + 1)), place, 1);
        if (low > 0) {
            wrong(text.replace("%s", "" + (low - 1)), place, 1);
        }
        wrong(text.replace("%s", "99999"), place, 1);
        wrong(text.replace("%s", "4294967298"), place, 1);
        wrong(text.replace("%s", "-1"), place, 0);
        wrong(text.replace("%s", "x"), place, 0);
        wrong(text.substring(0, place), place, 0);
        wrong(text.substring(0, place) + ";", place, 0);
        wrong(text.substring(0, place) + "  ", place + 2, 0);
    }

    private static void cells() {
        number("sea %s", 2, 12, road -> road.count(0));
        DuneRoad two = read("sea 2");
        Road.due("cell 1 of 2", two.height(1, 0), 0);
        Road.due("cell 2 of 2", two.height(2, 0), -1);
        DuneRoad twelve = read("sea 12");
        Road.due("cell 11 of 12", twelve.height(11, 0), 0);
        Road.due("cell 12 of 12", twelve.height(12, 0), -1);
    }

    private static void trains() {
        number("sea 12;train %s 0 12", 0, 9, road -> road.train(0, 0));
        number("sea 12;train 0 %s 12", 0, 29, road -> road.train(0, 1));
        DuneRoad road = read("sea 12;train 9 29 01234567890123456789");
        // Cell 11 on day 0: 29 - 99 = -70, of 20 the rest 10.
        Road.due("the furthest back", road.height(11, 0), 0);
        Road.due("a day on", road.height(11, 1), 1);
        Road.due("a day ahead of the round", road.height(11, 19), 9);
    }

    /** The cell that alone is that high. */
    private static long cellOf(DuneRoad road, int height) {
        long found = -1;
        for (int cell = 0; cell < road.count(0); cell++) {
            if (road.height(cell, 0) == height) {
                found = found == -1 ? cell : -2;
            }
        }
        return found;
    }

    private static void grounds() {
        number("sea 12;ground %s 7", 0, 11, road -> cellOf(road, 7));
        number("sea 2;ground %s 7", 0, 1, road -> cellOf(road, 7));
        number("sea 5;ground 3 %s", 0, 20, road -> road.height(3, 0));
        Road.due("of one the last told", read("sea 3;ground 1 20;ground 2 1;ground 1 3").height(1, 0), 3);
        Road.due("of one the last told, 0 too", read("sea 3;ground 1 20;ground 1 0").height(1, 0), 0);
        Road.due("0 without", read("sea 3;ground 1 20").height(0, 0), 0);
        Road.due("0 without", read("sea 3;ground 1 20").height(2, 0), 0);
    }

    private static void wells() {
        number("sea 12;well %s 9 9", 0, 11, road -> road.place(0, 0));
        number("sea 2;well %s 9 9", 0, 1, road -> road.place(0, 0));
        number("sea 12;well 3 %s 9", 0, 60, road -> road.place(0, 1));
        number("sea 12;well 3 9 %s", 1, 99, road -> road.place(0, 2));
    }

    private static void towns() {
        number("sea 12;town %s 9 9", 0, 11, road -> road.place(4, 0));
        number("sea 3;town %s 9 9", 0, 2, road -> road.place(4, 0));
        number("sea 12;town 3 %s 9", 0, 60, road -> road.place(4, 1));
        number("sea 12;town 3 9 %s", 1, 99, road -> road.place(4, 2));
    }

    private static void ships() {
        number("sea 12;ship %s 9 9", 0, 11, road -> road.ship(0, 0));
        number("sea 4;ship %s 9 9", 0, 3, road -> road.ship(0, 0));
        number("sea 12;ship 3 %s 9", 1, 30, road -> road.ship(0, 2));
        number("sea 12;ship 3 %s 9", 1, 30, road -> road.ship(0, 1));
        number("sea 12;ship 3 9 %s", 0, 20, road -> road.ship(0, 3));
    }

    private static void storms() {
        number("sea 2;storm %s 9", 0, 9, road -> road.count(14));
        number("sea 2;storm 0 %s", 1, 9, road -> road.count(15));
        number("sea 2;storm 1 %s", 1, 9, road -> road.count(15));
        number("sea 2;storm 5 %s", 5, 9, road -> road.count(15));
        number("sea 2;storm 9 %s", 9, 9, road -> road.count(15));
    }

    private static void rows() {
        for (int digits = 2; digits <= 20; digits++) {
            String row = "98765432101234567890".substring(0, digits);
            DuneRoad road = read("sea 2;train 0 0 " + row);
            Road.due("period", road.train(0, 2), digits);
            for (int i = 0; i < digits; i++) {
                Road.due("height at " + i + " of " + row, road.train(0, 100 + i), row.charAt(i) - '0');
            }
            Road.due("beyond " + row, road.train(0, 100 + digits), -1);
        }
        wrong("sea 2;train 0 0 1", 16, 1);
        wrong("sea 2;train 0 0 1;", 16, 1);
        wrong("sea 2;train 0 0 1 1", 16, 1);
        wrong("sea 2;train 0 0 123456789012345678901", 16, 1);
        wrong("sea 2;train 0 0 " + "0".repeat(384), 16, 1);
        // Without a digit: at it.
        wrong("sea 2;train 0 0 x1", 16, 0);
        wrong("sea 2;train 0 0 -11", 16, 0);
        wrong("sea 2;train 0 0  ;", 17, 0);
        wrong("sea 2;train 0 0;", 15, 0);
        wrong("sea 2;train 0 0", 15, 0);
        wrong("sea 2;train 0 0   ", 18, 0);
        // No blanks between: what comes behind a row can't stand there.
        wrong("sea 2;train 0 0 12 3", 19, 0);
        wrong("sea 2;train 0 0 12345678901234567890 1", 37, 0);
        wrong("sea 2;train 0 0 12x", 18, 0);
        // All digits go with the number that they stand at.
        wrong("sea 2;train 0009", 16, 0);
        wrong("sea 2;train 0012", 12, 1);
        wrong("sea 2;train 0 012", 17, 0);
    }

    private static void manyOfAKind() {
        kind("train", 3, ";train %d %d 12", road -> road.count(1), (road, i) -> road.train(i, 0));
        kind("well", 4, ";well %d %d 1", road -> road.count(2), (road, i) -> road.place(i, 1));
        kind("town", 4, ";town %d %d 1", road -> road.count(3), (road, i) -> road.place(4 + i, 1));
        kind("ship", 4, ";ship %d 1 %d", road -> road.count(4), (road, i) -> road.ship(i, 3));
        Road.due("one storm", read("sea 2;storm 1 2").count(14), 1);
        wrong("sea 2;storm 1 2;storm 1 2", 16, 4);
        wrong("sea 2;storm 0 1;ground 0 1;storm", 27, 4);
    }

    /** So many of a kind, in the order told; one more is a fault at its first byte. */
    private static void kind(String word, int most, String clause, Bounds.Call count, Bounds.NumberCall seen) {
        StringBuilder text = new StringBuilder("sea 12");
        for (int i = 0; i < most; i++) {
            Road.due(word + "s", count.on(read(text.toString())), i);
            text.append(String.format(clause, 7 - i, 7 - i));
        }
        DuneRoad road = read(text.toString());
        Road.due(word + "s", count.on(road), most);
        for (int i = 0; i < most; i++) {
            Road.due(word + " " + i, seen.on(road, i), 7 - i);
        }
        wrong(text + String.format(clause, 1, 1), text.length() + 1, 4);
        wrong(text + ";  " + word, text.length() + 3, 4);
        wrong(text + ";ground 0 0;" + word + " 99", text.length() + 12, 4);
    }

    private static void manyClauses() {
        String forty = "sea 2" + ";ground0 0".repeat(38) + ";ground1 5";
        Road.due("bytes of forty clauses", forty.length(), 395);
        Road.due("the fortieth is read", read(forty).height(1, 0), 5);
        wrong(forty + ";sea", 396, 4);
        wrong(forty + ";town", 396, 4);
        wrong(forty + "; sea", 397, 4);
        wrong(forty + ";x", 396, 0);
        wrong(forty + ";", 396, 0);
        String thirtyNine = "sea 2" + ";ground0 0".repeat(38);
        read(thirtyNine + ";ship 0 1 0");
        wrong(thirtyNine + ";ship 0 1 0;", 385 + 12, 0);
        wrong(thirtyNine + ";storm 0 1;ship", 385 + 11, 4);
    }

    private static void seaOnceAndFirst() {
        for (String clause : new String[] {"train 0 0 12", "ground 0 0", "well 0 0 1", "town 0 0 1", "ship 0 1 0", "storm 0 1"}) {
            wrong(clause, 0, 4);
            wrong(clause + ";sea 2", 0, 4);
            wrong(" " + clause + ";sea 2", 1, 4);
            wrong(clause.substring(0, clause.indexOf(' ')), 0, 4);
        }
        wrong("sea 2;sea 2", 6, 4);
        wrong("sea 2;ground 0 0; sea", 18, 4);
    }

    /** Each text that ends too soon: the fault is behind its last byte. */
    private static void theEnd() {
        String[] texts = {"", "sea", "sea 2;", "sea 2;train", "sea 2;train 0", "sea 2;train 0 0", "sea 2;ground", "sea 2;ground 0", "sea 2;well",
            "sea 2;well 0", "sea 2;well 0 0", "sea 2;town", "sea 2;town 0", "sea 2;town 0 0", "sea 2;ship", "sea 2;ship 0", "sea 2;ship 0 1",
            "sea 2;storm", "sea 2;storm 1", "sea 2;ship 0 1 0;"};
        for (String text : texts) {
            wrong(text, text.length(), 0);
            wrong(text + "   ", text.length() + 3, 0);
        }
        wrong(" ".repeat(400), 400, 0);
        wrong(" ".repeat(397) + "sea", 400, 0);
    }

    private static void blanks() {
        Road.due("blanks as one likes", read("   sea   2  ;  train  1   2    034   ;ship1  9 3   ").train(0, 103 - 1), 4);
        Road.due("none where none is needed", read("sea2;train1 2 034;ship1 9 3").ship(0, 0), 1);
        for (int sign : new int[] {0, 9, 10, 13, 31, 33, 95, 127, 160, 255}) {
            wrong("sea" + (char) sign + "2", 3, 0);
            wrong("sea 2" + (char) sign, 5, 0);
            wrong((char) sign + "sea 2", 0, 0);
            wrong("sea 2;" + (char) sign + "ground 0 0", 6, 0);
        }
        wrong("sea 1 2", 4, 1);
        wrong("sea 2 2", 6, 0);
    }

    private static void words() {
        for (String word : new String[] {"sea", "train", "ground", "well", "town", "ship", "storm"}) {
            wrong("sea 2;" + word.substring(1), 6, 0);
            wrong("sea 2;" + word.substring(0, word.length() - 1), 6, 0);
            wrong("sea 2;" + word + "s 0 0", 6, 0);
            wrong("sea 2;" + word.toUpperCase() + " 0 0", 6, 0);
            wrong("sea 2;" + word.substring(0, 1) + " " + word.substring(1), 6, 0);
        }
        for (String word : new String[] {"go", "fill", "if", "or", "and", "not", "cell", "day", "water", "tank", "height", "back", "on", "price", "paid"}) {
            wrong("sea 2;" + word + " 1", 6, 0);
            wrong(word, 0, 0);
        }
        wrong("s ea 2", 0, 0);
        wrong("sea 2;" + "a".repeat(394), 6, 0);
        for (String sign : new String[] {",", ":", "=", "<=", "[", "]", "+", "-", "{", "z", "A"}) {
            wrong("sea 2" + sign, 5, 0);
        }
    }

    private static void firstAlongTheText() {
        wrong("sea 13;sea 2", 4, 1);
        wrong("sea 2;well 2 99 0", 11, 1);
        wrong("sea 2;well 0 99 0", 13, 1);
        wrong("sea 2;train 10 30 1", 12, 1);
        wrong("sea 2;train 0 30 1", 14, 1);
        wrong("sea 2;storm 10 0;storm", 12, 1);
        wrong("train 99", 0, 4);
        wrong("sea 2,;sea 2", 5, 0);
    }

    /** At a place where two kinds are: the least. */
    private static void ofOnePlaceTheLeast() {
        String forty = "sea 2" + ";ground0 0".repeat(39);
        wrong(forty + ";seas", 396, 0);
        wrong(forty + ";17", 396, 0);
        wrong("seas 2", 0, 0);
        wrong("trains 0 0 12;sea 2", 0, 0);
    }

    private static void fullTape() {
        String long400 = "sea 2" + " ".repeat(385) + ";ground1 7";
        Road.due("400 bytes", long400.length(), 400);
        Road.due("all are read", read(long400).height(1, 0), 7);
        wrong("sea 2" + " ".repeat(386) + ";ground1 ", 400, 0);
        wrong("sea 2" + " ".repeat(394) + "x", 399, 0);
    }

    /** Nothing of the old sea is there behind a new one: RULES, x and the IMAGES alone. */
    private static void inPlaceOfTheOld() {
        String text = "sea 4;train 1 1 0123;well 1 9 9;town 2 2 2;ship 3 9 9";
        Bounds.Start fresh = road -> {
            Starts.read(road);
            Road.feed(road, text);
            road.sea();
        };
        Bounds.Start behindRich = road -> {
            Starts.richWithoutImages(road);
            Road.feed(road, text);
            Road.due("sea", road.sea(), 4);
        };
        Bounds.same("a sea in place of another", behindRich, fresh);
        Bounds.same("a sea in place of none", road -> {
            for (String rule : Starts.RICH_RULES) {
                Road.feed(road, rule);
                road.rule();
            }
            road.seed(12345);
            Road.feed(road, text);
            road.sea();
        }, fresh);
        DuneRoad full = Bounds.road(Starts.FULL);
        full.end(0);
        Road.feed(full, "sea 2");
        Road.due("sea behind a full one", full.sea(), 2);
        int[] due = {2, 0, 0, 0, 0, 6, 0, 0, 0, 0, 0, 0, 0, 0, 0, 1, 2147483647, 0};
        for (int what = 0; what <= 17; what++) {
            Road.due("count " + what + " behind a full one", full.count(what), due[what]);
        }
        Road.due("nothing to be undone", full.undo(), -2);
        Road.due("images stay", full.back(0), 1);
        Road.due("and what they were of", full.count(0), 12);
        DuneRoad last = Bounds.road(Starts.LAST_DAY);
        Road.feed(last, "sea 2;ship 0 1 0");
        Road.due("sea on the last day", last.sea(), 2);
        Road.due("day 0", last.count(6), 0);
        Road.due("its water is its tank", last.ship(0, 1), 1);
    }

    private static void whatIsNotTold() {
        DuneRoad road = read("sea 2");
        int[] due = {2, 0, 0, 0, 0, 0, 0, 0, 0, 0, 0, 0, 0, 0, 0, 1, 0, 0};
        for (int what = 0; what <= 17; what++) {
            Road.due("count " + what + " of the least sea", road.count(what), due[what]);
        }
        Road.due("round", road.round(), 1);
        DuneRoad ships = read("sea 2;ship 0 1 0;ship 1 30 20");
        Road.due("water is the tank", ships.ship(0, 1), 1);
        Road.due("water is the tank", ships.ship(1, 1), 30);
        Road.due("nothing paid", ships.ship(1, 4), 0);
        Road.due("not dry", ships.ship(1, 5), -1);
    }
}
