/** The boundaries of a RULE's text (terms I) and of promise 5 (rule). */
public final class RuleBoundsTest {
    private static final String[] VALUES = {"ship", "cell", "day", "water", "tank", "height", "back", "on", "well", "price", "paid"};

    public static void main(String[] args) {
        sixRules();
        numbers();
        clauses();
        depth();
        parts();
        partsOfAllClauses();
        values();
        signs();
        theEnd();
        whatCanNotStand();
        blanks();
        ofOnePlaceTheLeast();
        firstAlongTheText();
        fullTape();
        Road.finish();
    }

    private static void right(String text) {
        Road.due("rule of '" + text + "'", Road.rule(text), 0);
        DuneRoad road = Bounds.road(Starts.RICH_WITHOUT_TAPE);
        Road.feed(road, text);
        Road.due("rule of '" + text + "' behind three", road.rule(), 3);
        Road.due("rules", road.count(5), 4);
        Road.due("the tape is empty then", road.count(17), 0);
    }

    /** A fault in a rich state: all stays but the tape. */
    private static void wrong(String text, int place, int kind) {
        Bounds.still("rule of '" + text + "'", Starts.RICH_WITHOUT_TAPE, Road.fault(place, kind), road -> {
            Road.feed(road, text);
            return road.rule();
        });
    }

    private static void sixRules() {
        DuneRoad road = new DuneRoad();
        for (int i = 0; i < 6; i++) {
            Road.feed(road, "go");
            Road.due("a fault is no rule", road.rule(), Road.fault(2, 0));
            Road.feed(road, "go " + i);
            Road.due("rule " + i, road.rule(), i);
            Road.due("rules", road.count(5), i + 1);
        }
        for (String text : new String[] {"", "go 1", "go", "sea 2"}) {
            Bounds.Start six = start -> {
                Starts.FULL.on(start);
                start.end(0);
                Road.feed(start, text);
            };
            Bounds.still("a seventh rule of '" + text + "'", six, -1, DuneRoad::rule);
            DuneRoad full = Bounds.road(six);
            full.rule();
            Road.due("its bytes stay", full.count(17), text.length());
        }
        Bounds.still("a seventh rule of 400 bytes", Starts.FULL, -1, DuneRoad::rule);
        // With five there is room for one more.
        DuneRoad five = Road.on("sea 2;ship 0 9 9", "go 0", "go 0", "go 0", "go 0", "go 0");
        Road.feed(five, "go 1");
        Road.due("the sixth", five.rule(), 5);
        Road.due("goes by it", five.run(5, 1), 1);
        Road.due("is there", five.ship(0, 0), 1);
    }

    /** One to five digits, as far as digits go on. */
    private static void numbers() {
        for (String text : new String[] {"go %s", "go 1+%s", "fill %s=1", "fill 1=%s", "go 1 if 2*%s<3", "fill not[1=1 and %s>0]", "go 1;go 3-%s"}) {
            int place = text.indexOf("%s");
            for (String digits : new String[] {"0", "9", "00000", "99999"}) {
                right(text.replace("%s", digits));
            }
            for (String digits : new String[] {"000000", "100000", "999999", "4294967296", "00000000000000000001"}) {
                wrong(text.replace("%s", digits), place, 1);
            }
        }
        DuneRoad road = Road.on("sea 2;well 0 60 1;ship 0 9 0", "fill 99999=9*11111 and 00001=1");
        road.sail(0, 0);
        road.run(0, 1);
        Road.due("numbers are as told", road.ship(0, 4), 1);
    }

    private static void clauses() {
        String twelve = "go 1" + ";fill 1=1;go 1".repeat(5) + ";fill 1=1";
        right("go 1");
        right("fill 1=1");
        right(twelve);
        wrong(twelve + ";go 1", twelve.length() + 1, 4);
        wrong(twelve + ";fill 1=1", twelve.length() + 1, 4);
        wrong(twelve + "; go", twelve.length() + 2, 4);
        wrong(twelve + "; fill 1", twelve.length() + 2, 4);
        wrong(twelve + ";", twelve.length() + 1, 0);
        wrong(twelve + ";gone", twelve.length() + 1, 0);
        wrong(twelve + ";1", twelve.length() + 1, 0);
        right(twelve + "  ");
    }

    /** [ and not within one another, ten deep. */
    private static void depth() {
        for (int nots = 0; nots <= 10; nots++) {
            int opens = 10 - nots;
            String ten = "not ".repeat(nots) + "[".repeat(opens);
            String close = "]".repeat(opens);
            right("fill " + ten + "1=1" + close);
            right("go 1 if " + ten + "1=1" + close);
            wrong("fill " + ten + "[1=1]" + close, 5 + ten.length(), 2);
            wrong("fill " + ten + "not 1=1" + close, 5 + ten.length(), 2);
            wrong("go 1 if " + ten + " [1=1]" + close, 9 + ten.length(), 2);
            wrong("go 1 if " + ten + " not 1=1" + close, 9 + ten.length(), 2);
            // Within [ the next fact is as deep; a not is over with its fact.
            if (opens > 0) {
                wrong("fill " + ten + "1=1 and not 1=1" + close, 5 + ten.length() + 8, 2);
                wrong("fill " + ten + "1=1 or [1=1]" + close, 5 + ten.length() + 7, 2);
            } else {
                right("fill " + ten + "1=1 and not 1=1");
                right("fill " + ten + "1=1 or [1=1]");
            }
        }
        // What is closed, and a not whose fact is over, are deep no more.
        right("fill " + "[".repeat(10) + "1=1" + "]".repeat(10) + " and " + "[".repeat(10) + "1=1" + "]".repeat(10));
        right("fill " + "not ".repeat(10) + "1=1 or " + "not ".repeat(10) + "1=1");
        right("go 1 if " + "[".repeat(10) + "1=1" + "]".repeat(10) + ";fill " + "[".repeat(10) + "1=1" + "]".repeat(10));
        String open = "fill " + "[".repeat(9) + "not 1=1 and ";
        right(open + "[1=1]" + "]".repeat(9));
        wrong(open + "[[1=1]]" + "]".repeat(9), open.length() + 1, 2);
        wrong(open + "not[1=1]" + "]".repeat(9), open.length() + 3, 2);
        // The end of a text that is ten deep, and of one that would be eleven deep.
        wrong("fill " + "[".repeat(10), 15, 0);
        wrong("fill " + "[".repeat(11), 15, 2);
        wrong("fill " + "not ".repeat(9) + "not", 44, 0);
        wrong("fill " + "not ".repeat(10) + "not", 45, 2);
    }

    /** VALUES and FACTS of a SIGN, sixty together. */
    private static void parts() {
        right("go 1" + "+1".repeat(59));
        wrong("go 1" + "+1".repeat(60), 3 + 2 * 60, 3);
        wrong("go 1" + "+1".repeat(59) + "+  cell", 3 + 2 * 59 + 4, 3);
        right("go " + "day*".repeat(59) + "day");
        wrong("go " + "day*".repeat(60) + "day", 3 + 4 * 60, 3);
        // Twenty facts of two values and a sign are sixty.
        String twenty = "fill 1=1" + " or 1=1".repeat(19);
        right(twenty);
        wrong(twenty + " or 1=1", twenty.length() + 4, 3);
        wrong(twenty + " or cell", twenty.length() + 4, 3);
        // Nineteen and one value are 58; then the sign is 59 or 60 or one too many.
        String most = "fill 1=1" + " or 1=1".repeat(18);
        right(most + " or 1=1");
        wrong(most + " or 1+1=1", most.length() + 8, 3);
        wrong(most + " or 1+1+1=1", most.length() + 9, 3);
        wrong(most + " or 1+1+1  <=1", most.length() + 11, 3);
        wrong(most + " or 1+1+1+1", most.length() + 10, 3);
        wrong(most + " or 1=1-1", most.length() + 8, 3);
        // [ and not, and, or and if count nothing.
        right("go 1 if [[not not 1=1]] and not[1=1]" + " and [1=1]".repeat(17));
    }

    private static void partsOfAllClauses() {
        String text = "go 1" + "+1".repeat(28) + ";fill 1" + "+1".repeat(27) + "=1";
        right(text + ";go 1");
        wrong(text + ";go 1;go 1", text.length() + 9, 3);
        wrong(text + ";go 1+1", text.length() + 6, 3);
        wrong(text + ";go 1 if 1=1", text.length() + 9, 3);
        wrong(text + ";fill 1=1", text.length() + 7, 3);
        // A rule's parts do not count for the next one.
        DuneRoad road = new DuneRoad();
        for (int i = 0; i < 6; i++) {
            Road.feed(road, "go 1" + "+1".repeat(60));
            Road.due("too many", road.rule(), Road.fault(123, 3));
            Road.feed(road, "go 1" + "+1".repeat(59));
            Road.due("sixty each", road.rule(), i);
        }
    }

    private static void values() {
        for (String value : VALUES) {
            right("go " + value);
            right("fill " + value + "=" + value);
            wrong("go " + value + "s", 3, 0);
            wrong("go x" + value, 3, 0);
            if (!value.equals("on")) {
                wrong("go " + value.substring(1), 3, 0);
            }
            wrong("go " + value.substring(0, value.length() - 1), 3, 0);
            wrong("go " + value.toUpperCase(), 3, 0);
            wrong("go " + value + " " + value, 4 + value.length(), 0);
            wrong("go " + value + "1", 3 + value.length(), 0);
            wrong("go 1" + value, 4, 0);
            wrong(value + " 1", 0, 0);
        }
        for (String word : new String[] {"go", "fill", "if", "or", "and", "not", "sea", "train", "ground", "town", "storm", "open", "price" + "paid"}) {
            wrong("go " + word, 3, 0);
            wrong("go 1+" + word, 5, 0);
            wrong("fill 1=" + word, 7, 0);
        }
    }

    private static void signs() {
        for (String sign : new String[] {"<", "<=", "=", ">=", ">"}) {
            right("fill 1" + sign + "1");
            right("fill 1 " + sign + " 1");
            wrong("go 1" + sign + "1", 4, 0);
            wrong("fill " + sign + "1", 5, 0);
            wrong("fill 1" + sign, 6 + sign.length(), 0);
            wrong("fill 1" + sign + sign + "1", 6 + sign.length(), 0);
            wrong("fill 1=1" + sign + "1", 8, 0);
        }
        wrong("fill 1< =1", 8, 0);
        wrong("fill 1> =1", 8, 0);
        wrong("fill 1=>1", 7, 0);
        wrong("fill 1=<1", 7, 0);
        wrong("fill 1<>1", 7, 0);
        for (String sign : new String[] {"+", "-", "*", "/", "%"}) {
            right("go 1" + sign + "1");
            wrong("go " + sign + "1", 3, 0);
            wrong("go 1" + sign, 5, 0);
            wrong("go 1" + sign + sign + "1", 5, 0);
        }
        for (String sign : new String[] {"!", "|", "~", "&", "^", "(", "{", ":", ",", "?", "@", "\"", "#", "'", ".", "\\", "`", "_"}) {
            wrong("go 1" + sign + "1", 4, 0);
            wrong("fill 1" + sign + "1", 6, 0);
            wrong("fill 1<" + sign + "1", 7, 0);
            wrong(sign, 0, 0);
        }
    }

    /** Each text that ends too soon: the fault is behind its last byte. */
    private static void theEnd() {
        String[] texts = {"", "go", "fill", "go 1;", "go 1+", "go 1 if", "go 1 if 1", "go 1 if 1<", "go 1 if 1=1 and", "go 1 if 1=1 or", "go 1 if not",
            "fill 1", "fill 1<=", "fill [", "fill [1", "fill [1=1", "fill [1=1 or [2=2]", "fill not", "fill 1=1;", "fill 1=1 and [", "go 1 if 1=1;"};
        for (String text : texts) {
            wrong(text, text.length(), 0);
            wrong(text + "  ", text.length() + 2, 0);
        }
        wrong(" ".repeat(400), 400, 0);
        wrong(" ".repeat(398) + "go", 400, 0);
    }

    private static void whatCanNotStand() {
        wrong("go 1 if 1=1 if 1=1", 12, 0);
        wrong("fill 1=1 if 1=1", 9, 0);
        wrong("go if 1=1", 3, 0);
        wrong("fill if 1=1", 5, 0);
        wrong("go 1 or 1=1", 5, 0);
        wrong("go 1 and 1=1", 5, 0);
        wrong("go [1]", 3, 0);
        wrong("fill [1]=1", 7, 0);
        wrong("fill []", 6, 0);
        wrong("fill ]", 5, 0);
        wrong("fill 1=1]", 8, 0);
        wrong("fill [1=1]]", 10, 0);
        wrong("fill [1=1;", 9, 0);
        wrong("fill 1=1 1=1", 9, 0);
        wrong("fill 1=1 not 1=1", 9, 0);
        wrong("fill 1=1 [1=1]", 9, 0);
        wrong("fill or 1=1", 5, 0);
        wrong("fill 1=not 1", 7, 0);
        wrong("fill 1=[1]", 7, 0);
        wrong("sea 2", 0, 0);
        wrong("g 1", 0, 0);
        wrong("goo 1", 0, 0);
        wrong("fil 1=1", 0, 0);
        wrong("fills 1=1", 0, 0);
        wrong(";go 1", 0, 0);
        wrong("go 1;;go 1", 5, 0);
        wrong("5", 0, 0);
        wrong("go 1 iff 1=1", 5, 0);
        wrong("go 1 i f 1=1", 5, 0);
        wrong("fill notcell=1", 5, 0);
        wrong("fill 1=1 andcell=1", 9, 0);
        wrong("fill 1=1 orcell=1", 9, 0);
    }

    private static void blanks() {
        right("   go   1   +   2   if   not   [   1   <=   2   ]   ;   fill   cell   =   3   ");
        right("go1+2if not[1<=2]and 1=1or 2=2;fill3=cell");
        for (int sign : new int[] {0, 9, 10, 13, 31, 127, 160, 255}) {
            wrong("go" + (char) sign + "1", 2, 0);
            wrong("go 1" + (char) sign, 4, 0);
            wrong((char) sign + "go 1", 0, 0);
            wrong("fill 1" + (char) sign + "=1", 6, 0);
        }
    }

    /** Where two kinds are at one place: the least. */
    private static void ofOnePlaceTheLeast() {
        String sixty = "go 1" + "+1".repeat(59);
        wrong(sixty + "+x", sixty.length() + 1, 0);
        wrong(sixty + "+", sixty.length() + 1, 0);
        wrong(sixty + "+123456", sixty.length() + 1, 1);
        wrong(sixty + "+12345", sixty.length() + 1, 3);
        wrong(sixty + "=1", sixty.length(), 0);
        wrong(sixty + " if " + "[".repeat(11) + "1=1", sixty.length() + 4 + 10, 2);
        String facts = "fill 1=1" + " or 1=1".repeat(18) + " or 1+1+1";
        wrong(facts + "|1", facts.length(), 0);
        wrong(facts + "<1", facts.length(), 3);
    }

    private static void firstAlongTheText() {
        wrong("go 123456 if x", 3, 1);
        wrong("go x if 123456=1", 3, 0);
        wrong("fill " + "[".repeat(11) + "123456", 15, 2);
        wrong("fill 123456=" + "[".repeat(11), 5, 1);
        wrong("go 1" + "+1".repeat(60) + " if " + "[".repeat(11), 123, 3);
    }

    private static void fullTape() {
        String text = "fill water<9" + " ".repeat(384) + "or 1";
        wrong(text, 400, 0);
        right("fill water<9" + " ".repeat(382) + "or 1=2");
        right(" ".repeat(396) + "go 1");
        wrong(" ".repeat(396) + "go x", 399, 0);
        // Brackets and words alone can fill it, too.
        right("go 1 if " + "[[[[[[[[[[1=1]]]]]]]]]] or ".repeat(14) + "[[[[1=1]]]]" + " ");
    }
}
