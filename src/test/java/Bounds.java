import java.util.IdentityHashMap;
import java.util.Map;

/** What the tests of boundaries share: calls that are refused, and whether all else answers as without them. */
final class Bounds {
    interface Start {
        void on(DuneRoad road);
    }

    interface Call {
        long on(DuneRoad road);
    }

    interface NumberCall {
        long on(DuneRoad road, int number);
    }

    /** Views of starts that are used again and again. */
    private static final Map<Start, String[]> KNOWN = new IdentityHashMap<>();

    private Bounds() {
    }

    static DuneRoad road(Start start) {
        DuneRoad road = new DuneRoad();
        start.on(road);
        return road;
    }

    /** The call's answer, and behind it all answers as without it: so for what is refused and for what is asked. */
    static void still(String what, Start start, long want, Call call) {
        Road.due(what, call.on(road(start)), want);
        Start with = road -> {
            start.on(road);
            call.on(road);
        };
        compare(what, Views.of(with), KNOWN.computeIfAbsent(start, Views::of));
    }

    /** Two ways to the same state: all answers are the same. */
    static void same(String what, Start one, Start other) {
        compare(what, Views.of(one), Views.of(other));
    }

    /** Whether anything at all answers otherwise: by this a call is known to have done something. */
    static void differs(String what, Start one, Start other) {
        boolean same = String.join("", Views.of(one)).equals(String.join("", Views.of(other)));
        Road.due(what + ": something answers otherwise", !same, true);
    }

    private static void compare(String what, String[] got, String[] want) {
        for (int part = 0; part < Views.PARTS; part++) {
            String[] gotLines = got[part].split("\n");
            String[] wantLines = want[part].split("\n");
            int first = 0;
            while (first < gotLines.length && first < wantLines.length && gotLines[first].equals(wantLines[first])) {
                first++;
            }
            if (first < gotLines.length || first < wantLines.length) {
                Road.due(what + ", then: " + line(gotLines, first) + " in place of " + line(wantLines, first), 1, 0);
                return;
            }
        }
    }

    private static String line(String[] lines, int at) {
        return at < lines.length ? lines[at] : "nothing";
    }

    /** A number of a call that does something: taken from low to high, refused beside these and far off. */
    static void taken(String what, Start start, int low, int high, long refusal, NumberCall call) {
        for (int number : new int[] {low, high}) {
            boolean isTaken = call.on(road(start), number) != refusal;
            Road.due(what + " " + number + " is taken", isTaken, true);
        }
        refused(what, start, low - 1, refusal, call);
        refused(what, start, high + 1, refusal, call);
        refused(what, start, Integer.MIN_VALUE, refusal, call);
        refused(what, start, Integer.MAX_VALUE, refusal, call);
    }

    /** The same of a call that asks: what is taken changes nothing, either. */
    static void asked(String what, Start start, int low, int high, long refusal, NumberCall call) {
        taken(what, start, low, high, refusal, call);
        for (int number : new int[] {low, high}) {
            long answer = call.on(road(start), number);
            still(what + " " + number, start, answer, road -> call.on(road, number));
        }
    }

    static void refused(String what, Start start, int number, long refusal, NumberCall call) {
        still(what + " " + number + " is refused", start, refusal, road -> call.on(road, number));
    }
}
