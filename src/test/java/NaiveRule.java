import java.util.ArrayList;
import java.util.HashMap;
import java.util.List;
import java.util.Map;

/** A rule as a tree, walked anew for each ship and day. */
final class NaiveRule {
    interface Value {
        long of(Map<String, Long> words);
    }

    record Clause(Value sum, Value test) {
    }

    final List<Clause> clauses = new ArrayList<>();

    void day(NaiveDune.State state) {
        int[] ways = new int[4];
        for (int n = 0; n < state.ships.size(); n++) {
            NaiveDune.Ship ship = state.ships.get(n);
            if (ship.dryOn >= 0) {
                continue;
            }
            Map<String, Long> words = words(state, n);
            for (Clause clause : clauses) {
                if (clause.sum() == null && clause.test().of(words) != 0) {
                    state.fill(ship);
                    break;
                }
            }
            words = words(state, n);
            for (Clause clause : clauses) {
                if (clause.sum() != null && (clause.test() == null || clause.test().of(words) != 0)) {
                    long way = clause.sum().of(words);
                    if ((way == 1 || way == -1) && ship.water > 0 && state.canGo(ship.cell, ship.cell + (int) way, state.day, ship.climb)) {
                        ways[n] = (int) way;
                    }
                    break;
                }
            }
        }
        state.pass(ways);
    }

    private static Map<String, Long> words(NaiveDune.State state, int n) {
        NaiveDune.Ship ship = state.ships.get(n);
        NaiveDune.Place well = state.openWell(ship.cell, state.day);
        Map<String, Long> words = new HashMap<>();
        words.put("ship", (long) n);
        words.put("cell", (long) ship.cell);
        words.put("day", (long) state.day);
        words.put("water", (long) ship.water);
        words.put("tank", (long) ship.tank);
        words.put("height", (long) state.height(ship.cell, state.day));
        words.put("back", ship.cell == 0 ? 99L : state.height(ship.cell - 1, state.day + 1));
        words.put("on", ship.cell == state.cells - 1 ? 99L : state.height(ship.cell + 1, state.day + 1));
        words.put("well", well == null ? 0L : 1L);
        words.put("price", well == null ? 0L : well.coins());
        words.put("paid", (long) ship.paid);
        return words;
    }
}
