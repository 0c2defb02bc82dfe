/** Promises 4 and 5: each of the 256 bytes, put in at and in place of each byte of a text, as NaiveText reads it. */
public final class EveryByteTest {
    private static final String[] SEAS = {
        "sea 4;train 1 2 0123;ground 3 5",
        "sea12 ; well 11 60 99;town 0 0 1; ship 1 30 20;storm 3 5"
    };
    private static final String[] RULES = {
        "fill cell<3",
        "fill cell<=3 or not[on>=2 and day=7] or 1>0",
        "go 0-1 if back<=height+2*1/1%9;go well"
    };

    private static DuneRoad road = new DuneRoad();

    public static void main(String[] args) {
        for (String text : SEAS) {
            spoil(text, true);
        }
        for (String text : RULES) {
            spoil(text, false);
        }
        signs();
        Road.finish();
    }

    private static void spoil(String text, boolean isSea) {
        for (int at = 0; at <= text.length(); at++) {
            for (int sign = 0; sign < 256; sign++) {
                String head = text.substring(0, at) + (char) sign;
                check(head + text.substring(at), isSea);
                check(head + text.substring(Math.min(at + 1, text.length())), isSea);
            }
        }
    }

    private static void check(String text, boolean isSea) {
        if (road.count(5) == 6) {
            road = new DuneRoad();
        }
        int rules = road.count(5);
        Road.feed(road, text);
        int got = isSea ? road.sea() : road.rule();
        Road.due((isSea ? "sea of '" : "rule of '") + text + "'", got, due(text, isSea, rules));
    }

    private static int due(String text, boolean isSea, int rules) {
        try {
            if (isSea) {
                return new NaiveText(text).sea().cells;
            }
            new NaiveText(text).rule();
            return rules;
        } catch (NaiveDune.Fault fault) {
            return -2 - fault.number;
        }
    }

    /** Told apart from NaiveText: no byte but three stands between two sums. */
    private static void signs() {
        for (int sign = 0; sign < 256; sign++) {
            boolean goesOn = sign >= 'a' && sign <= 'z' || sign == ' ' || "+-*/%".indexOf(sign) >= 0;
            if (!goesOn) {
                boolean stands = sign == '<' || sign == '=' || sign == '>';
                Road.due("rule of fill cell, byte " + sign + ", 3", Road.rule("fill cell" + (char) sign + "3"), stands ? 0 : Road.fault(9, 0));
                boolean joins = sign == '<' || sign == '>';
                Road.due("rule of fill 1, byte " + sign + ", =3", Road.rule("fill 1 " + (char) sign + "=3"), joins ? 0 : Road.fault(sign == '=' ? 8 : 7, 0));
            }
        }
    }
}
