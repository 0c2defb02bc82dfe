/** Promises 28 to 31: rents, orders of sailing, storms as fractions. */
public final class FleetTest {
    public static void main(String[] args) {
        rents();
        fleets();
        orders();
        storms();
        Road.finish();
    }

    private static void rents() {
        Road.due("no sea", new DuneRoad().rent(0, 0, 0), -1);
        DuneRoad road = Road.on("sea 2;train 0 0 0123456789;ground 1 5;town 0 4 7;town 1 6 10;ship 0 9 0");
        Road.due("a round", road.rent(0, 0, 10), 35);
        Road.due("from 3 on", road.rent(0, 3, 4), 14);
        Road.due("no days", road.rent(0, 3, 0), 0);
        Road.due("400", road.rent(0, 0, 400), 1400);
        Road.due("401", road.rent(0, 0, 401), -1);
        Road.due("-1", road.rent(0, 0, -1), -1);
        Road.due("9999", road.rent(0, 9999, 6), 35);
        Road.due("10000", road.rent(0, 10000, 1), -1);
        Road.due("day -1", road.rent(0, -1, 1), -1);
        Road.due("town 1", road.rent(1, 0, 20), 40);
        Road.due("town 2", road.rent(2, 0, 1), -1);
        Road.due("town 4", road.rent(4, 0, 1), -1);
        Road.due("town -1", road.rent(-1, 0, 1), -1);
        Road.due("the last of four", Road.on("sea 2;town 0 0 1;town 0 0 2;town 0 0 3;town 0 0 4").rent(3, 0, 1), 4);
        road.fence(0, true);
        Road.due("with a fence", road.rent(0, 0, 10), 56);
        Road.due("behind it", road.rent(1, 0, 10), 0);
        road.fence(0, false);
        // Days 0 to 6 are 4 less.
        road.dig(0, 4, 7);
        Road.due("diggings as told", road.rent(0, 0, 10), 49);
        road.sail(0, 0);
        Road.due("on the day that it was too", road.rent(0, 0, 10), 49);
    }

    private static void fleets() {
        Road.due("none without a sea", new DuneRoad().fleet(-1, 0, 0), 0);
        Road.due("no sea", new DuneRoad().fleet(1, 0, 0), -2);
        Road.due("no sea", new DuneRoad().order(0), -1);
        DuneRoad road = Road.on("sea 2");
        int[][] not = {{0, 0, 0}, {100, 0, 0}, {-2, 0, 0}, {1, -1, 0}, {1, 100, 0}, {1, 0, -1}, {1, 0, 100}};
        for (int[] row : not) {
            Road.due("fleet " + row[0] + " " + row[1] + " " + row[2], road.fleet(row[0], row[1], row[2]), -2);
        }
        Road.due("dues of none", road.order(0), 0);
        Road.due("who of none", road.order(1), -2);
        for (int i = 1; i <= 6; i++) {
            Road.due("fleet", road.fleet(99, 99, 99), i);
        }
        Road.due("a seventh", road.fleet(1, 0, 0), -2);
        Road.due("six", road.count(12), 6);
        Road.due("dues", road.order(0), 99 * 99 * (6 + 15));
        for (int i = 1; i <= 6; i++) {
            Road.due("all alike: as told", road.order(i), i - 1);
        }
        Road.due("7", road.order(7), -1);
        Road.due("-1", road.order(-1), -1);
        Road.due("none", road.fleet(-1, -7, 500), 0);
        Road.due("none", road.count(12), 0);
    }

    private static void orders() {
        DuneRoad road = Road.on("sea 2");
        road.fleet(10, 1, 9);
        road.fleet(20, 5, 5);
        road.fleet(1, 3, 0);
        // Number 2 spoils nothing, so it is ahead of all with a due; 1 ahead of 0: 1 * 5 less than 5 * 9.
        // 3 * 1 + 5 * 20 + 1 * (10 + 5).
        Road.due("dues", road.order(0), 118);
        Road.due("first", road.order(1), 2);
        Road.due("second", road.order(2), 1);
        Road.due("third", road.order(3), 0);
        Road.due("fourth", road.order(4), -2);
        road.fleet(-1, 0, 0);
        // Without dues and spoil the row does not matter: the first.
        road.fleet(5, 0, 0);
        road.fleet(7, 2, 3);
        road.fleet(6, 0, 0);
        road.fleet(3, 2, 3);
        Road.due("dues", road.order(0), 14 + 12);
        int[] due = {0, 1, 2, 3};
        for (int i = 0; i < 4; i++) {
            Road.due("place " + (i + 1), road.order(i + 1), due[i]);
        }
    }

    private static void fraction(DuneRoad road, int n, int k, long above, long below) {
        Road.due("above of " + n + " " + k, road.storms(n, k, 0), above);
        Road.due("below of " + n + " " + k, road.storms(n, k, 1), below);
    }

    private static void storms() {
        Road.due("no sea", new DuneRoad().storms(0, 0, 0), -1);
        DuneRoad road = Road.on("sea 2;storm 1 4");
        fraction(road, 0, 0, 1, 1);
        fraction(road, 0, 1, 0, 1);
        fraction(road, 1, 1, 1, 4);
        fraction(road, 2, 1, 7, 16);
        fraction(road, 2, 2, 1, 16);
        // 3 * 1/16 * 3/4 and 1/64: 10 of 64.
        fraction(road, 3, 2, 5, 32);
        fraction(road, 2, 3, 0, 1);
        fraction(road, 12, 0, 1, 1);
        fraction(road, 12, 13, 0, 1);
        int[][] not = {{-1, 0, 0}, {13, 0, 0}, {0, -1, 0}, {0, 14, 0}, {0, 0, 2}, {0, 0, -1}};
        for (int[] row : not) {
            Road.due("storms " + row[0] + " " + row[1] + " " + row[2], road.storms(row[0], row[1], row[2]), -1);
        }
        DuneRoad nine = Road.on("sea 2;storm 8 9");
        fraction(nine, 12, 12, 68719476736L, 282429536481L);
        // All but none: 9 to the 12th less 1.
        fraction(nine, 12, 1, 282429536480L, 282429536481L);
        DuneRoad half = Road.on("sea 2;storm 3 6");
        fraction(half, 4, 2, 11, 16);
        DuneRoad sure = Road.on("sea 2;storm 9 9");
        fraction(sure, 12, 12, 1, 1);
        DuneRoad without = Road.on("sea 2");
        fraction(without, 12, 1, 0, 1);
        fraction(without, 12, 0, 1, 1);
    }
}
