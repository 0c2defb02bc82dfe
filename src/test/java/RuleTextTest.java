/** Promise 5: what a rule's text may be, and its faults. */
public final class RuleTextTest {
    public static void main(String[] args) {
        rightTexts();
        wordsAndSigns();
        numbers();
        depth();
        parts();
        clauses();
        behindFaults();
        Road.finish();
    }

    private static void right(String text) {
        Road.due("rule of '" + text + "'", Road.rule(text), 0);
    }

    private static void wrong(String text, int place, int kind) {
        Road.due("rule of '" + text + "'", Road.rule(text), Road.fault(place, kind));
    }

    private static void rightTexts() {
        right("go 1");
        right("go1");
        right("  go 0 - 1  ");
        right("fill 1=1");
        right("fill1<2or 3>=4and 5<=6");
        right("fill not not[1=1]");
        right("go 1if 1=1;fill[[1>2]or not 3=3]and 1=1");
        right("go ship+cell-day*water/tank%height+back-on*well/price%paid");
        right("go 99999;go 00000");
        right("fill on=height");
    }

    private static void wordsAndSigns() {
        wrong("", 0, 0);
        wrong("  ", 2, 0);
        wrong("go", 2, 0);
        wrong("go  ", 4, 0);
        wrong("gone 1", 0, 0);
        wrong(" 1", 1, 0);
        wrong("Go 1", 0, 0);
        wrong("sea 4", 0, 0);
        wrong("if 1=1", 0, 0);
        wrong("go cells", 3, 0);
        wrong("go sea", 3, 0);
        wrong("go if", 3, 0);
        wrong("go not", 3, 0);
        wrong("go -1", 3, 0);
        wrong("go [1]", 3, 0);
        wrong("go 1 2", 5, 0);
        wrong("go 1 cell", 5, 0);
        wrong("go 1 +", 6, 0);
        wrong("go 1 + * 2", 7, 0);
        wrong("go 1=1", 4, 0);
        wrong("go 1 if", 7, 0);
        wrong("go 1 iff 1=1", 5, 0);
        wrong("go 1 if 1", 9, 0);
        wrong("go 1 or", 5, 0);
        wrong("go 1;", 5, 0);
        wrong("go 1;;go 1", 5, 0);
        wrong("fill", 4, 0);
        wrong("fill 1", 6, 0);
        wrong("fill 1 and 2=2", 7, 0);
        wrong("fill 1=", 7, 0);
        wrong("fill 1<=", 8, 0);
        wrong("fill 1>=", 8, 0);
        wrong("fill 1==1", 7, 0);
        wrong("fill 1=<1", 7, 0);
        wrong("fill 1< =1", 8, 0);
        wrong("fill 1> =1", 8, 0);
        wrong("fill cell|3", 9, 0);
        wrong("fill cell~3", 9, 0);
        wrong("fill cell|3 " + "\0".repeat(8), 9, 0);
        wrong("go 1 if 1|1", 9, 0);
        wrong("fill [1~1]", 7, 0);
        wrong("fill 1<>1", 7, 0);
        wrong("fill 1<2<3", 8, 0);
        wrong("fill on=1]", 9, 0);
        wrong("fill [on=1", 10, 0);
        wrong("fill [on=1;", 10, 0);
        wrong("fill []", 6, 0);
        wrong("fill [1]=1", 7, 0);
        wrong("fill 1=1 not 1=1", 9, 0);
        wrong("fill 1=1 or", 11, 0);
        wrong("fill 1=1 and or 1=1", 13, 0);
        wrong("fill 1=1 if 1=1", 9, 0);
        wrong("fill nota=1", 5, 0);
        wrong("fill heights=1", 5, 0);
        wrong("fill 1=1" + (char) 200, 8, 0);
    }

    private static void numbers() {
        wrong("go 100000", 3, 1);
        wrong("go 000001", 3, 1);
        wrong("fill day=100000", 9, 1);
        wrong("go 1+  123456 foo", 7, 1);
    }

    private static void depth() {
        right("fill " + "[".repeat(10) + "1=1" + "]".repeat(10));
        wrong("fill " + "[".repeat(11) + "1=1" + "]".repeat(11), 15, 2);
        right("go 1 if " + "[".repeat(10) + "1=1" + "]".repeat(10));
        wrong("go 1 if " + "[".repeat(11) + "1=1" + "]".repeat(11), 18, 2);
        right("fill " + "not ".repeat(10) + "1=1");
        wrong("fill " + "not ".repeat(11) + "1=1", 45, 2);
        right("fill " + "not [".repeat(5) + "1=1" + "]".repeat(5));
        wrong("fill " + "not[".repeat(5) + "not 1=1" + "]".repeat(5), 25, 2);
        wrong("fill " + "not[".repeat(5) + "[1=1]" + "]".repeat(5), 25, 2);
        // What is closed again does not count.
        right("fill " + "[".repeat(9) + "[1=1] and not 1=1 or [1=1]" + "]".repeat(9));
        right("fill not 1=1 and " + "not ".repeat(10) + "1=1");
    }

    private static void parts() {
        right("go 1" + "%1".repeat(59));
        wrong("go 1" + "%1".repeat(60), 123, 3);
        wrong("go 1" + "%1".repeat(59) + "%foo", 123, 0);
        wrong("go 1" + "%1".repeat(59) + "%123456", 123, 1);
        // 19 facts are 57; then a value, the sign, a value.
        String facts = "fill 1=1" + " or 1=1".repeat(18);
        right(facts + " or 1=1");
        wrong(facts + " or 1=1 or 1=1", facts.length() + 7 + 4, 3);
        wrong(facts + " or 1+1+1=1", facts.length() + 9, 3);
        wrong(facts + " or 1+1=1", facts.length() + 8, 3);
        // All clauses together.
        wrong("go 1" + "+1".repeat(58) + ";go 2;go 3", 4 + 2 * 58 + 1 + 5 + 3, 3);
    }

    private static void clauses() {
        String twelve = "go 1" + ";go 1".repeat(11);
        right(twelve);
        wrong(twelve + ";go 1", 60, 4);
        wrong(twelve + ";fill 1=1", 60, 4);
        wrong(twelve + "; fill", 61, 4);
        wrong(twelve + ";foo", 60, 0);
        wrong(twelve + ";", 60, 0);
    }

    /** Nothing of texts that had a fault is in a rule that is read behind them. */
    private static void behindFaults() {
        DuneRoad road = Road.on("sea 3;well 0 9 1;ship 0 9 9");
        manyFaults(road);
        Road.feed(road, "fill 1=2");
        Road.due("rule", road.rule(), 0);
        manyFaults(road);
        Road.feed(road, "go 2-1");
        Road.due("rule", road.rule(), 1);
        Road.due("a day", road.run(0, 1), 1);
        Road.due("it stayed", road.ship(0, 0), 0);
        Road.due("it did not fill", road.ship(0, 4), 0);
        Road.due("a day", road.run(1, 1), 2);
        Road.due("it went", road.ship(0, 0), 1);
        Road.due("it did not fill", road.ship(0, 4), 0);
    }

    private static void manyFaults(DuneRoad road) {
        int rules = road.count(5);
        for (int i = 0; i < 10; i++) {
            Road.feed(road, "go 1;fill 1=1;go 1" + "+1-1".repeat(20) + ";go 1;fill 1=1;go");
            Road.due("fault", road.rule(), Road.fault(115, 0));
        }
        Road.due("no more rules", road.count(5), rules);
    }
}
