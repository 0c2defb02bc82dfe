import java.util.Random;

/** No call throws, whatever its arguments and whatever stands on the tape. */
public final class WildCallsTest {
    private static final int[] EDGES = {Integer.MIN_VALUE, Integer.MIN_VALUE + 1, -100, -3, -2, -1, 0, 1, 2, 3, 4, 5, 6, 7, 8, 9, 10, 11, 12, 13, 20, 29, 30,
        31, 32, 60, 61, 99, 100, 101, 119, 120, 255, 256, 300, 400, 401, 9998, 9999, 10000, 99999, 100000, Integer.MAX_VALUE - 1, Integer.MAX_VALUE};
    private static Random random;

    public static void main(String[] args) {
        for (int seed = 1; seed <= 200; seed++) {
            random = new Random(seed);
            RandomTexts texts = new RandomTexts(random);
            DuneRoad road = new DuneRoad();
            for (int i = 0; i < 500; i++) {
                if (i % 100 == 20) {
                    road.end(0);
                    Road.feed(road, texts.sea(false));
                    road.sea();
                    Road.feed(road, texts.rule(false));
                    road.rule();
                }
                call(road, random.nextInt(38));
            }
            Road.due("the tape's bytes", road.count(17) >= 0 && road.count(17) <= 400, true);
        }
        Road.finish();
    }

    private static int any() {
        return random.nextInt(10) == 0 ? random.nextInt() : EDGES[random.nextInt(EDGES.length)];
    }

    private static void call(DuneRoad road, int kind) {
        boolean is = random.nextBoolean();
        switch (kind) {
            case 0 -> road.feed(any(), any(), any(), any(), any());
            case 1 -> road.end(any());
            case 2 -> road.sea();
            case 3 -> road.rule();
            case 4 -> road.height(any(), any());
            case 5 -> road.train(any(), any());
            case 6 -> road.place(any(), any());
            case 7 -> road.ship(any(), any());
            case 8 -> road.sail(any(), any());
            case 9 -> road.fill(any());
            case 10 -> road.fence(any(), is);
            case 11 -> road.dig(any(), any(), any());
            case 12 -> road.undo();
            case 13 -> road.run(any(), any());
            case 14 -> road.round();
            case 15 -> road.again(any(), any());
            case 16 -> road.share(any(), any());
            case 17 -> road.crest(any(), any());
            case 18 -> road.voyage(any(), any(), any());
            case 19 -> road.fences(any(), any(), any(), any());
            case 20 -> road.sight(any(), is);
            case 21 -> road.wreck(any());
            case 22 -> road.masts(any());
            case 23 -> road.shows(any(), any());
            case 24 -> road.told(any(), any(), any());
            case 25 -> road.winds(any(), any());
            case 26 -> road.rent(any(), any(), any());
            case 27 -> road.fleet(any(), any(), any());
            case 28 -> road.order(any());
            case 29 -> road.storms(any(), any(), any());
            case 30 -> road.seed(any());
            case 31 -> road.drawn(any(), any(), any(), any());
            case 32 -> road.count(any());
            case 33 -> road.image(any());
            case 34 -> road.back(any());
            default -> road.feed(random.nextInt(), any(), random.nextInt(), any(), random.nextInt());
        }
    }
}
