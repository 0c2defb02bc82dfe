/** Promises 26 and 27: heights that are told, and the winds that a train can have by them. */
public final class WindsTest {
    public static void main(String[] args) {
        told();
        winds();
        otherTrains();
        fencesAndDiggings();
        Road.finish();
    }

    private static void told() {
        Road.due("none without a sea", new DuneRoad().told(-1, 0, 0), 0);
        Road.due("no sea", new DuneRoad().told(0, 0, 0), -2);
        DuneRoad road = Road.on("sea 3");
        int[][] not = {{3, 0, 0}, {-2, 0, 0}, {0, -1, 0}, {0, 10000, 0}, {0, 0, -1}, {0, 0, 100}};
        for (int[] row : not) {
            Road.due("told " + row[0] + " " + row[1] + " " + row[2], road.told(row[0], row[1], row[2]), -2);
        }
        for (int i = 1; i <= 10; i++) {
            Road.due("told", road.told(2, 9999, 99), i);
        }
        Road.due("an eleventh", road.told(0, 0, 0), -2);
        Road.due("ten", road.count(11), 10);
        Road.due("none", road.told(-1, 77777, -5), 0);
        Road.due("none", road.count(11), 0);
    }

    private static void due(DuneRoad road, int train, int many, int lag, int shift, int lags) {
        int[] due = {many, lag, shift, lags};
        for (int what = 0; what < 4; what++) {
            Road.due("winds " + train + " " + what, road.winds(train, what), due[what]);
        }
    }

    private static void winds() {
        Road.due("no sea", new DuneRoad().winds(0, 0), -1);
        DuneRoad road = Road.on("sea 3;train 3 4 01234;ground 1 2");
        Road.due("train 1", road.winds(1, 0), -1);
        Road.due("train -1", road.winds(-1, 0), -1);
        Road.due("what 4", road.winds(0, 4), -1);
        Road.due("what -1", road.winds(0, -1), -1);
        due(road, 0, 50, 0, 0, 1023);
        // Cell 0 on day 7: 7 + shift = 1 mod 5.
        road.told(0, 7, 1);
        due(road, 0, 10, 0, 4, 1023);
        // Cell 1 on day 7: 7 + 4 - lag = 3 mod 5: lags 3 and 8.
        road.told(1, 7, 5);
        due(road, 0, 2, 3, 4, 8 + 256);
        road.told(2, 0, 3);
        // 4 - 2 * lag = 3 mod 5: lag 3 and 8 again.
        due(road, 0, 2, 3, 4, 8 + 256);
        road.told(0, 0, 0);
        due(road, 0, 0, -2, -2, 0);
        // Equal rows have many shifts.
        DuneRoad flat = Road.on("sea 2;train 3 4 1212");
        flat.told(0, 0, 2);
        due(flat, 0, 20, 0, 1, 1023);
        Road.due("by what is asked nothing changes", flat.train(0, 1), 4);
    }

    private static void otherTrains() {
        DuneRoad road = Road.on("sea 2;train 0 0 05;train 1 0 012;ground 0 4");
        // Cell 0, day 1: 4 + 5 + 1.
        road.told(0, 1, 10);
        // Train 0 must have 5 there: shift 0. Train 1: shift 0.
        due(road, 0, 10, 0, 0, 1023);
        due(road, 1, 10, 0, 0, 1023);
        // Cell 1, day 1: 5 + 0 by its own lag; told 7: train 1 at 2 there: 1 - lag = 2 mod 3: lags 2, 5, 8.
        road.told(1, 1, 7);
        due(road, 1, 3, 2, 0, 4 + 32 + 256);
        // Train 0 would need 7 there.
        due(road, 0, 0, -2, -2, 0);
    }

    private static void fencesAndDiggings() {
        DuneRoad road = Road.on("sea 2;train 0 0 1234");
        road.fence(0, true);
        road.dig(0, 9, 30);
        // 1, 2 and 3 are 0 with the fence, 4 is 1; there are no diggings.
        road.told(0, 0, 0);
        due(road, 0, 30, 0, 0, 1023);
        road.told(-1, 0, 0);
        road.told(0, 0, 1);
        due(road, 0, 10, 0, 3, 1023);
        // Behind the fence 3 more.
        road.told(1, 0, 5);
        // Row at 3 - lag is 2, at 1: lags 2 and 6.
        due(road, 0, 2, 2, 3, 4 + 64);
    }
}
