import java.util.ArrayList;
import java.util.HashSet;
import java.util.List;
import java.util.Set;

/** Reads a text byte by byte as the document tells it; the first fault ends it. */
final class NaiveText {
    private final String text;
    private int at;
    private int depth;
    private int parts;

    NaiveText(String text) {
        this.text = text;
    }

    private void blanks() {
        while (at < text.length() && text.charAt(at) == ' ') {
            at++;
        }
    }

    /** The next sign behind blanks, 0 at the end (a byte 0 stands nowhere, so that is the same). */
    private char next() {
        blanks();
        return at < text.length() ? text.charAt(at) : 0;
    }

    private String word() {
        blanks();
        int to = at;
        while (to < text.length() && text.charAt(to) >= 'a' && text.charAt(to) <= 'z') {
            to++;
        }
        return text.substring(at, to);
    }

    private String digits() {
        blanks();
        int to = at;
        while (to < text.length() && text.charAt(to) >= '0' && text.charAt(to) <= '9') {
            to++;
        }
        return text.substring(at, to);
    }

    private int number(int low, int high) {
        String digits = digits();
        if (digits.isEmpty()) {
            throw new NaiveDune.Fault(at, 0);
        }
        if (digits.length() > 5 || Integer.parseInt(digits) < low || Integer.parseInt(digits) > high) {
            throw new NaiveDune.Fault(at, 1);
        }
        at += digits.length();
        return Integer.parseInt(digits);
    }

    private boolean another() {
        if (next() == ';') {
            at++;
            return true;
        }
        if (at < text.length()) {
            throw new NaiveDune.Fault(at, 0);
        }
        return false;
    }

    NaiveDune.State sea() {
        NaiveDune.State state = new NaiveDune.State();
        boolean storm = false;
        int clauses = 0;
        do {
            String word = word();
            int first = at;
            if (!Set.of("sea", "train", "ground", "well", "town", "ship", "storm").contains(word)) {
                throw new NaiveDune.Fault(first, 0);
            }
            boolean tooMany = clauses == 40 || word.equals("sea") != (clauses == 0)
                    || word.equals("train") && state.trains.size() == 3 || word.equals("well") && state.wells.size() == 4
                    || word.equals("town") && state.towns.size() == 4 || word.equals("ship") && state.ships.size() == 4
                    || word.equals("storm") && storm;
            if (tooMany) {
                throw new NaiveDune.Fault(first, 4);
            }
            clauses++;
            at += word.length();
            storm |= word.equals("storm");
            clause(state, word);
        } while (another());
        return state;
    }

    private void clause(NaiveDune.State state, String word) {
        int most = state.cells - 1;
        switch (word) {
            case "sea" -> state.cells = number(2, 12);
            case "train" -> {
                int lag = number(0, 9);
                int shift = number(0, 29);
                String row = digits();
                if (row.isEmpty()) {
                    throw new NaiveDune.Fault(at, 0);
                }
                if (row.length() == 1 || row.length() > 20) {
                    throw new NaiveDune.Fault(at, 1);
                }
                at += row.length();
                state.trains.add(new NaiveDune.Train(lag, shift, row));
            }
            case "ground" -> {
                int cell = number(0, most);
                state.ground.put(cell, number(0, 20));
            }
            case "well" -> state.wells.add(new NaiveDune.Place(number(0, most), number(0, 60), number(1, 99)));
            case "town" -> state.towns.add(new NaiveDune.Place(number(0, most), number(0, 60), number(1, 99)));
            case "ship" -> {
                NaiveDune.Ship ship = new NaiveDune.Ship();
                ship.cell = number(0, most);
                ship.tank = number(1, 30);
                ship.climb = number(0, 20);
                ship.water = ship.tank;
                state.ships.add(ship);
            }
            default -> {
                state.odds = number(0, 9);
                state.of = number(Math.max(1, state.odds), 9);
            }
        }
    }

    NaiveRule rule() {
        NaiveRule rule = new NaiveRule();
        int clauses = 0;
        do {
            String word = word();
            if (!word.equals("go") && !word.equals("fill")) {
                throw new NaiveDune.Fault(at, 0);
            }
            if (clauses == 12) {
                throw new NaiveDune.Fault(at, 4);
            }
            clauses++;
            at += word.length();
            if (word.equals("fill")) {
                rule.clauses.add(new NaiveRule.Clause(null, test()));
            } else {
                NaiveRule.Value sum = sum();
                NaiveRule.Value test = null;
                if (word().equals("if")) {
                    at += 2;
                    test = test();
                }
                rule.clauses.add(new NaiveRule.Clause(sum, test));
            }
        } while (another());
        return rule;
    }

    private NaiveRule.Value test() {
        List<NaiveRule.Value> choices = new ArrayList<>();
        choices.add(part());
        while (word().equals("or")) {
            at += 2;
            choices.add(part());
        }
        return words -> {
            for (NaiveRule.Value choice : choices) {
                if (choice.of(words) != 0) {
                    return 1;
                }
            }
            return 0;
        };
    }

    private NaiveRule.Value part() {
        List<NaiveRule.Value> facts = new ArrayList<>();
        facts.add(fact());
        while (word().equals("and")) {
            at += 3;
            facts.add(fact());
        }
        return words -> {
            for (NaiveRule.Value fact : facts) {
                if (fact.of(words) == 0) {
                    return 0;
                }
            }
            return 1;
        };
    }

    private void deeper() {
        if (depth == 10) {
            throw new NaiveDune.Fault(at, 2);
        }
        depth++;
    }

    private void onePart() {
        if (parts == 60) {
            throw new NaiveDune.Fault(at, 3);
        }
        parts++;
    }

    private NaiveRule.Value fact() {
        if (word().equals("not")) {
            deeper();
            at += 3;
            NaiveRule.Value inner = fact();
            depth--;
            return words -> inner.of(words) == 0 ? 1 : 0;
        }
        if (next() == '[') {
            deeper();
            at++;
            NaiveRule.Value inner = test();
            if (next() != ']') {
                throw new NaiveDune.Fault(at, 0);
            }
            at++;
            depth--;
            return inner;
        }
        NaiveRule.Value left = sum();
        char sign = next();
        if ("<=>".indexOf(sign) < 0) {
            throw new NaiveDune.Fault(at, 0);
        }
        onePart();
        at++;
        boolean equal = sign == '=';
        if (sign != '=' && at < text.length() && text.charAt(at) == '=') {
            equal = true;
            at++;
        }
        boolean orEqual = equal;
        NaiveRule.Value right = sum();
        return words -> {
            long a = left.of(words);
            long b = right.of(words);
            return a == b && orEqual || a < b && sign == '<' || a > b && sign == '>' ? 1 : 0;
        };
    }

    private NaiveRule.Value sum() {
        NaiveRule.Value sum = term();
        while (next() == '+' || next() == '-') {
            boolean plus = next() == '+';
            at++;
            NaiveRule.Value left = sum;
            NaiveRule.Value right = term();
            sum = words -> plus ? left.of(words) + right.of(words) : left.of(words) - right.of(words);
        }
        return sum;
    }

    private NaiveRule.Value term() {
        NaiveRule.Value term = value();
        while (next() == '*' || next() == '/' || next() == '%') {
            char sign = next();
            at++;
            NaiveRule.Value left = term;
            NaiveRule.Value right = value();
            term = words -> {
                long a = left.of(words);
                long b = right.of(words);
                return sign == '*' ? a * b : b == 0 ? 0 : sign == '/' ? a / b : a % b;
            };
        }
        return term;
    }

    private static final Set<String> WORDS = new HashSet<>(List.of("ship", "cell", "day", "water", "tank", "height", "back", "on",
            "well", "price", "paid"));

    private NaiveRule.Value value() {
        String word = word();
        if (WORDS.contains(word)) {
            onePart();
            at += word.length();
            return words -> words.get(word);
        }
        if (digits().isEmpty()) {
            throw new NaiveDune.Fault(at, 0);
        }
        if (digits().length() > 5) {
            throw new NaiveDune.Fault(at, 1);
        }
        onePart();
        long number = number(0, 99999);
        return words -> number;
    }
}
