import java.nio.charset.StandardCharsets;
import java.util.Random;

/** Runs of random calls (by told seeds) on DuneRoad and on NaiveDune, which must answer the same. */
public final class RandomRunsTest {
    private static DuneRoad road;
    private static NaiveDune naive;
    private static Random random;
    private static StringBuilder told;

    public static void main(String[] args) {
        int from = args.length > 0 ? Integer.parseInt(args[0]) : 1;
        int to = args.length > 1 ? Integer.parseInt(args[1]) : 300;
        for (int seed = from; seed <= to && Road.wrong == 0; seed++) {
            faults(seed);
            run(seed);
            if (seed % 10 == 0) {
                late(seed);
            }
        }
        Road.finish();
    }

    private static void start(int seed) {
        road = new DuneRoad();
        naive = new NaiveDune();
        random = new Random(seed);
        told = new StringBuilder();
    }

    private static void same(String call, long got, long want) {
        told.append(call).append(" = ").append(got).append('\n');
        if (got != want && Road.wrong == 0) {
            System.out.println(told);
            Road.due(call, got, want);
        }
    }

    private static void feed(String text) {
        byte[] bytes = text.getBytes(StandardCharsets.ISO_8859_1);
        for (int from = 0; from < bytes.length; from += 20) {
            int[] n = new int[5];
            for (int i = 0; i < 20; i++) {
                n[i / 4] = n[i / 4] << 8 | (from + i < bytes.length ? bytes[from + i] & 255 : 0);
            }
            same("feed", road.feed(n[0], n[1], n[2], n[3], n[4]), naive.feed(n[0], n[1], n[2], n[3], n[4]));
        }
        same("end " + text, road.end(bytes.length), naive.end(bytes.length));
    }

    private static void faults(int seed) {
        start(seed);
        RandomTexts texts = new RandomTexts(random);
        for (int i = 0; i < 60; i++) {
            String sea = texts.sea(i % 3 != 0);
            feed(i % 3 == 2 ? texts.spoilt(sea) : sea);
            same("sea", road.sea(), naive.sea());
            if (road.count(5) == 6) {
                start(seed * 1000 + i);
                texts = new RandomTexts(random);
            }
            String rule = texts.rule(i % 3 != 0);
            feed(i % 3 == 2 ? texts.spoilt(rule) : rule);
            same("rule", road.rule(), naive.rule());
        }
    }

    private static void run(int seed) {
        start(seed);
        RandomTexts texts = new RandomTexts(random);
        for (int i = 0; i < 470; i++) {
            if (i == 0 || random.nextInt(150) == 0) {
                feed(texts.sea(false));
                same("sea", road.sea(), naive.sea());
                same("image", road.image(3), naive.image(3));
            } else if (road.count(13) == road.count(4) && random.nextInt(12) == 0) {
                // Dry ships tell little.
                same("back", road.back(3), naive.back(3));
            } else if (i < 5 || random.nextInt(150) == 0) {
                feed(texts.rule(false));
                int rule = road.rule();
                same("rule", rule, naive.rule());
                same("end", road.end(0), naive.end(0));
            } else {
                call(random.nextInt(44));
            }
        }
    }

    /** Calls about the last days that there are: a ship that fills each day gets there. */
    private static void late(int seed) {
        start(seed);
        feed("sea 5;train 1 2 0312;train 2 1 20413;ground 2 1;well 0 60 1;well 4 4 2;town 2 5 5;ship 0 9 5;ship 4 12 9;storm 1 3");
        same("sea", road.sea(), naive.sea());
        for (String rule : new String[] {"fill 1=1", "fill water<4;go day%3-1", "go 1 if on<=height;go 0-1"}) {
            feed(rule);
            same("rule", road.rule(), naive.rule());
        }
        for (int i = 0; i < 99; i++) {
            same("run", road.run(0, 100), naive.run(0, 100));
        }
        same("run", road.run(1, 60 + seed % 39), naive.run(1, 60 + seed % 39));
        for (int i = 0; i < 300; i++) {
            call(random.nextInt(44));
        }
    }

    /** From low to high, seldom one beyond. */
    private static int to(int low, int high) {
        int wild = random.nextInt(60);
        if (wild == 0) {
            return low - 1;
        }
        if (wild == 1) {
            return high + 1;
        }
        if (wild == 2 && random.nextInt(5) == 0) {
            return random.nextBoolean() ? Integer.MAX_VALUE : Integer.MIN_VALUE;
        }
        return low + random.nextInt(high - low + 1);
    }

    private static int cell() {
        int cells = road.count(0);
        return to(0, Math.max(1, cells) - 1);
    }

    private static int ship() {
        return to(0, Math.max(1, road.count(4)) - 1);
    }

    private static int place() {
        int wells = road.count(2);
        int towns = road.count(3);
        int n = random.nextInt(Math.max(1, wells + towns));
        return random.nextInt(12) == 0 ? to(0, 7) : n < wells ? n : 4 + n - wells;
    }

    private static int day() {
        int now = road.count(6);
        return switch (random.nextInt(4)) {
            case 0 -> to(0, 9999);
            case 1 -> now;
            default -> to(Math.max(0, now - 5), now + 40);
        };
    }

    private static void call(int kind) {
        int a = 0;
        int b = 0;
        int c = 0;
        int d = 0;
        switch (kind) {
            case 0 -> same("height", road.height(a = cell(), b = random.nextBoolean() ? day() : to(0, 99999)), naive.height(a, b));
            case 1 -> same("train", road.train(a = to(0, 2), b = random.nextBoolean() ? to(0, 3) : to(100, 120)), naive.train(a, b));
            case 2 -> same("place", road.place(a = place(), b = to(0, 3)), naive.place(a, b));
            case 3, 4 -> same("ship", road.ship(a = ship(), b = to(0, 5)), naive.ship(a, b));
            case 5, 6, 7 -> same("sail", road.sail(a = ship(), b = to(-1, 1)), naive.sail(a, b));
            case 8, 9 -> same("fill", road.fill(a = ship()), naive.fill(a));
            case 10, 11 -> {
                boolean is = random.nextBoolean();
                a = cell();
                same("fence", road.fence(a, is) ? 1 : 0, naive.fence(a, is) ? 1 : 0);
            }
            case 12, 13 -> same("dig", road.dig(a = cell(), b = to(1, random.nextBoolean() ? 5 : 20), c = to(1, 30)), naive.dig(a, b, c));
            case 14, 15, 16 -> same("undo", road.undo(), naive.undo());
            case 17 -> same("run", road.run(a = to(0, Math.max(1, road.count(5)) - 1), b = to(1, random.nextInt(10) == 0 ? 100 : 4)), naive.run(a, b));
            case 18 -> same("round", road.round(), naive.round());
            case 19 -> same("again", road.again(a = place(), b = day()), naive.again(a, b));
            case 20 -> same("share", road.share(a = place(), b = to(0, 1)), naive.share(a, b));
            case 21 -> same("crest", road.crest(a = cell(), b = day()), naive.crest(a, b));
            case 22, 23, 24, 25 -> voyages();
            case 26, 27 -> someFences();
            case 28 -> {
                boolean is = random.nextBoolean();
                a = random.nextInt(12) == 0 ? -1 : day();
                same("sight", road.sight(a, is), naive.sight(a, is));
            }
            case 29 -> same("wreck", road.wreck(a = to(0, random.nextBoolean() ? 12 : 60)), naive.wreck(a));
            case 30 -> same("masts", road.masts(a = cell()), naive.masts(a));
            case 31 -> same("shows", road.shows(a = to(0, random.nextBoolean() ? 12 : 60), b = day()), naive.shows(a, b));
            case 32 -> tellHeight();
            case 33 -> {
                a = to(0, 2);
                for (int what = -1; what <= 4; what++) {
                    same("winds", road.winds(a, what), naive.winds(a, what));
                }
            }
            case 34 -> same("rent", road.rent(a = to(0, 3), b = day(), c = to(0, 400)), naive.rent(a, b, c));
            case 35 -> {
                int most = random.nextBoolean() ? 4 : 99;
                same("fleet", road.fleet(a = random.nextInt(20) == 0 ? -1 : to(1, most), b = to(0, most), c = to(0, most)), naive.fleet(a, b, c));
            }
            case 36 -> {
                for (int what = -1; what <= 7; what++) {
                    same("order", road.order(what), naive.order(what));
                }
            }
            case 37 -> same("storms", road.storms(a = to(0, 12), b = to(0, 13), c = to(0, 1)), naive.storms(a, b, c));
            case 38 -> same("seed", road.seed(a = random.nextInt()), naive.seed(a));
            case 39 -> same("drawn", road.drawn(a = to(0, Math.max(1, road.count(5)) - 1), b = to(1, 10), c = to(1, random.nextBoolean() ? 8 : 100), d = to(0, 2)), naive.drawn(a, b, c, d));
            case 40, 41 -> {
                for (int what = -1; what <= 18; what++) {
                    same("count", road.count(what), naive.count(what));
                }
            }
            case 42 -> same("image", road.image(a = to(0, 3)), naive.image(a));
            default -> same("back", road.back(a = random.nextInt(4) == 0 ? to(0, 3) : -1), naive.back(a));
        }
        told.append("    of ").append(a).append(' ').append(b).append(' ').append(c).append(' ').append(d).append('\n');
    }

    private static void voyages() {
        int ship = ship();
        int cell = cell();
        for (int what = -1; what <= 4; what++) {
            same("voyage " + ship + " " + cell + " " + what, road.voyage(ship, cell, what), naive.voyage(ship, cell, what));
        }
    }

    private static void someFences() {
        int places = 0;
        int many = random.nextInt(4);
        for (int i = 0; i < many; i++) {
            places |= 1 << (place() & 31);
        }
        int from = day();
        int to = from + random.nextInt(random.nextInt(3) == 0 ? 31 : 4);
        for (int what = -1; what <= 3; what++) {
            same("fences " + places + " " + from + " " + to + " " + what, road.fences(places, from, to, what), naive.fences(places, from, to, what));
        }
    }

    /** Mostly a height that is so, for else no wind would ever fit. */
    private static void tellHeight() {
        int cell = random.nextInt(10) == 0 ? -1 : cell();
        int day = day();
        int height = random.nextInt(5) == 0 ? to(0, 99) : Math.max(0, naive.height(cell, day));
        same("told", road.told(cell, day, height), naive.told(cell, day, height));
    }
}
