import java.util.Random;

/** Texts of seas and rules by a random source with a told seed, right ones and such with faults. */
final class RandomTexts {
    private final Random random;

    RandomTexts(Random random) {
        this.random = random;
    }

    private int to(int low, int high) {
        return low + random.nextInt(high - low + 1);
    }

    /** Mostly as told, seldom one that is not. */
    private int number(int low, int high, boolean wild) {
        if (wild && random.nextInt(25) == 0) {
            return random.nextBoolean() ? high + 1 : random.nextInt(200000);
        }
        return to(low, high);
    }

    private String blanks(boolean needed) {
        int n = random.nextInt(6) == 0 ? to(0, 3) : 1;
        return " ".repeat(needed ? Math.max(1, n) : random.nextInt(3) == 0 ? n : 0);
    }

    String sea(boolean wild) {
        int cells = random.nextInt(4) == 0 ? to(2, 12) : to(2, 6);
        StringBuilder text = new StringBuilder("sea").append(blanks(false)).append(number(cells, cells, wild));
        int clauses = wild && random.nextInt(6) == 0 ? to(30, 42) : to(0, 14);
        int[] counts = new int[7];
        for (int i = 0; !wild && i < 4 && random.nextInt(8) != 0; i++) {
            int kind = i % 2 == 0 ? 5 : 3;
            counts[kind]++;
            text.append(';');
            clause(text, kind, cells, false);
        }
        for (int i = 0; i < clauses; i++) {
            int kind = to(wild && random.nextInt(20) == 0 ? 0 : 1, 6);
            int limit = new int[] {0, 3, 40, 4, 4, 4, 1}[kind];
            if (++counts[kind] > limit && !(wild && random.nextInt(8) == 0)) {
                continue;
            }
            if (text.length() < 360) {
                text.append(blanks(false)).append(';').append(blanks(false));
                clause(text, kind, cells, wild);
            }
        }
        return text.append(blanks(false)).toString();
    }

    private void clause(StringBuilder text, int kind, int cells, boolean wild) {
        switch (kind) {
            case 0 -> numbers(text, "sea", number(2, 12, wild));
            case 1 -> {
                numbers(text, "train", number(0, random.nextBoolean() ? 2 : 9, wild), number(0, 29, wild));
                text.append(blanks(true));
                int digits = random.nextInt(3) == 0 ? number(2, 20, wild) % 24 : to(2, 8);
                int most = to(1, 9);
                for (int i = 0; i < digits; i++) {
                    text.append(to(0, most));
                }
            }
            case 2 -> numbers(text, "ground", number(0, cells - 1, wild), number(0, random.nextBoolean() ? 4 : 20, wild));
            case 3 -> numbers(text, "well", number(0, cells - 1, wild), number(0, random.nextBoolean() ? 12 : 60, wild), number(1, random.nextBoolean() ? 4 : 99, wild));
            case 4 -> numbers(text, "town", number(0, cells - 1, wild), number(0, random.nextBoolean() ? 12 : 60, wild), number(1, 99, wild));
            case 5 -> numbers(text, "ship", number(0, cells - 1, wild), number(1, random.nextBoolean() ? 8 : 30, wild), number(0, random.nextBoolean() ? 5 : 20, wild));
            default -> {
                int of = number(1, 9, wild);
                numbers(text, "storm", number(0, Math.min(9, of), wild), of);
            }
        }
    }

    private void numbers(StringBuilder text, String word, int... numbers) {
        text.append(word);
        for (int i = 0; i < numbers.length; i++) {
            text.append(blanks(i > 0)).append(random.nextInt(10) == 0 && numbers[i] < 1000 ? "0" : "").append(numbers[i]);
        }
    }

    String rule(boolean wild) {
        StringBuilder text = new StringBuilder();
        int clauses = wild && random.nextInt(4) == 0 ? to(10, 14) : to(1, 4);
        boolean small = clauses > 9;
        for (int i = 0; i < clauses; i++) {
            if (i > 0) {
                text.append(blanks(false)).append(';').append(blanks(false));
            }
            if (random.nextInt(3) == 0) {
                text.append("fill").append(blanks(true));
                test(text, small ? 0 : 3, wild);
            } else {
                text.append("go").append(blanks(true));
                way(text, wild);
                if (random.nextInt(3) != 0) {
                    text.append(" if ");
                    test(text, small ? 0 : 3, wild);
                }
            }
        }
        String done = text.toString();
        return done.length() > 400 ? done.substring(0, 400) : done;
    }

    private void way(StringBuilder text, boolean wild) {
        switch (random.nextInt(6)) {
            case 0 -> text.append("1");
            case 1 -> text.append("0-1");
            case 2 -> text.append("ship%2*2-1");
            case 3 -> text.append("(day/3+ship)%3-1".replace("(", "").replace(")", ""));
            case 4 -> text.append("day % 5 / 2 - 1");
            default -> sum(text, wild);
        }
    }

    private void test(StringBuilder text, int depth, boolean wild) {
        fact(text, depth, wild);
        int more = random.nextInt(3) == 0 ? to(1, 3) : 0;
        for (int i = 0; i < more; i++) {
            text.append(random.nextBoolean() ? " and " : " or ");
            fact(text, depth, wild);
        }
    }

    private void fact(StringBuilder text, int depth, boolean wild) {
        int kind = random.nextInt(6);
        if (depth > 0 && kind == 0) {
            int deep = wild && random.nextInt(6) == 0 ? to(6, 11) : 1;
            text.append("not ".repeat(deep));
            fact(text, depth - 1, wild);
        } else if (depth > 0 && kind == 1) {
            int deep = wild && random.nextInt(6) == 0 ? to(6, 11) : 1;
            text.append("[".repeat(deep)).append(blanks(false));
            test(text, depth - 1, wild);
            text.append(blanks(false)).append("]".repeat(deep));
        } else {
            sum(text, wild);
            text.append(blanks(false)).append(new String[] {"<", "<=", "=", ">=", ">"}[random.nextInt(5)]).append(blanks(false));
            sum(text, wild);
        }
    }

    private void sum(StringBuilder text, boolean wild) {
        int values = random.nextInt(3) == 0 ? to(2, 4) : 1;
        if (wild && random.nextInt(12) == 0) {
            values = to(20, 62);
        }
        for (int i = 0; i < values; i++) {
            if (i > 0) {
                text.append(blanks(false)).append("+-*/%".charAt(random.nextInt(5))).append(blanks(false));
            }
            if (random.nextInt(3) == 0) {
                text.append(number(0, random.nextBoolean() ? 5 : 99, wild));
            } else {
                text.append(new String[] {"ship", "cell", "day", "water", "tank", "height", "back", "on", "well", "price", "paid"}[random.nextInt(11)]);
            }
        }
    }

    /** Some bytes changed, put in or taken out. */
    String spoilt(String text) {
        StringBuilder spoilt = new StringBuilder(text);
        int times = to(1, 2);
        String signs = "abgiort0129 ;[]<>=+-*/%,A\t\0" + (char) 255;
        for (int i = 0; i < times && spoilt.length() > 0; i++) {
            int at = random.nextInt(spoilt.length());
            char sign = random.nextInt(4) == 0 ? (char) random.nextInt(256) : signs.charAt(random.nextInt(signs.length()));
            switch (random.nextInt(4)) {
                case 0 -> spoilt.setCharAt(at, sign);
                case 1 -> spoilt.insert(at, sign);
                case 2 -> spoilt.deleteCharAt(at);
                default -> spoilt.setLength(at);
            }
        }
        return spoilt.length() > 400 ? spoilt.substring(0, 400) : spoilt.toString();
    }
}
