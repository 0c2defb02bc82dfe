/** Promises 16 to 19: round, again, share, crest. */
public final class RemaindersTest {
    public static void main(String[] args) {
        rounds();
        again();
        shares();
        crests();
        noDiggings();
        Road.finish();
    }

    private static void rounds() {
        Road.due("no sea", new DuneRoad().round(), -1);
        Road.due("no trains", Road.on("sea 2").round(), 1);
        Road.due("7", Road.on("sea 2;train 1 0 0246420").round(), 7);
        Road.due("4 and 6", Road.on("sea 2;train 1 0 0001;train 1 0 000001").round(), 12);
        Road.due("17, 19 and 20", Road.on("sea 2;train 1 0 00000000000000001;train 1 0 0000000000000000001;train 0 0 00000000000000000001").round(), 6460);
        Road.due("a row's places count, though its heights come again sooner", Road.on("sea 2;train 1 0 1212").round(), 4);
    }

    private static void again() {
        DuneRoad road = Road.on("sea 3;train 1 0 123;train 0 1 4567;well 1 6 1;town 1 4 1;town 0 60 1;well 1 9 1");
        // Cell 1: row one at d - 1 mod 3, row two at d + 1 mod 4: day 0: 3 + 5, 1: 1 + 6, 2: 2 + 7, 3: 3 + 4, 4: 1 + 5.
        Road.due("well 0", road.again(0, 0), 4);
        Road.due("the day itself", road.again(0, 4), 4);
        // 7: 1 + 4.
        Road.due("from 5 on", road.again(0, 5), 7);
        Road.due("never", road.again(4, 0), -2);
        Road.due("always", road.again(5, 17), 17);
        // The round is 12: 9999 is 3, so 4 is the next day.
        Road.due("beyond 9999", road.again(0, 9999), 10000);
        Road.due("day -1", road.again(0, -1), -1);
        Road.due("day 10000", road.again(0, 10000), -1);
        Road.due("place 2", road.again(2, 0), -1);
        Road.due("place 6", road.again(6, 0), -1);
        Road.due("place 8", road.again(8, 0), -1);
        Road.due("place -1", road.again(-1, 0), -1);
        Road.due("no sea", new DuneRoad().again(0, 0), -1);
        road.fence(1, true);
        Road.due("by a fence", road.again(0, 0), 0);
        road.fence(0, true);
        Road.due("by two", road.again(0, 0), 4);
        DuneRoad late = Road.on("sea 2;train 0 0 11111111111111110;train 0 0 1111111111111111110;train 0 0 11111111111111111110;well 0 0 1");
        Road.due("the last of a round", late.again(0, 0), 6459);
        Road.due("a round on", late.again(0, 6460), 12919);
        Road.due("its share", late.share(0, 0), 1);
        Road.due("its share", late.share(0, 1), 6460);
    }

    private static void shares() {
        DuneRoad road = Road.on("sea 2;train 0 0 0123456789;well 0 4 1;well 0 5 1;town 1 60 1;well 1 0 1");
        long[][] due = {{0, 1, 2}, {1, 3, 5}, {4, 1, 1}, {2, 1, 10}};
        for (long[] row : due) {
            Road.due("above of " + row[0], road.share((int) row[0], 0), row[1]);
            Road.due("below of " + row[0], road.share((int) row[0], 1), row[2]);
        }
        Road.due("part 2", road.share(0, 2), -1);
        Road.due("part -1", road.share(0, -1), -1);
        Road.due("place 3", road.share(3, 0), -1);
        Road.due("no sea", new DuneRoad().share(0, 0), -1);
        DuneRoad never = Road.on("sea 2;train 0 0 12;well 0 0 1");
        Road.due("never, above", never.share(0, 0), 0);
        Road.due("never, below", never.share(0, 1), 1);
        Road.due("without trains", Road.on("sea 2;well 0 0 1").share(0, 1), 1);
    }

    private static void crests() {
        DuneRoad road = Road.on("sea 3;train 1 0 019;train 2 3 09200;ground 1 9");
        // Cell 1: d - 1 = 2 mod 3, d + 1 = 1 mod 5: d = 0 mod 3, 0 mod 5.
        Road.due("cell 1", road.crest(1, 0), 0);
        Road.due("cell 1 later", road.crest(1, 1), 15);
        // Cell 0: d = 2 mod 3, d + 3 = 1 mod 5, d = 3 mod 5: 8.
        Road.due("cell 0", road.crest(0, 0), 8);
        Road.due("that day", road.crest(0, 8), 8);
        Road.due("behind it", road.crest(0, 9), 23);
        Road.due("9999", road.crest(0, 9999), 10013);
        road.fence(0, true);
        Road.due("fences do not matter", road.crest(0, 0), 8);
        Road.due("day 10000", road.crest(0, 10000), -1);
        Road.due("day -1", road.crest(0, -1), -1);
        Road.due("cell 3", road.crest(3, 0), -1);
        Road.due("cell -1", road.crest(-1, 0), -1);
        Road.due("no sea", new DuneRoad().crest(0, 0), -1);
        Road.due("no trains", Road.on("sea 2").crest(0, 0), -2);
        Road.due("never", Road.on("sea 2;train 0 0 01;train 0 0 0010").crest(0, 0), -2);
        Road.due("the other cell", Road.on("sea 2;train 0 0 01;train 1 0 0010").crest(1, 0), 3);
        Road.due("a flat train", Road.on("sea 2;train 0 0 00").crest(0, 5), 5);
    }

    private static void noDiggings() {
        DuneRoad road = Road.on("sea 2;ground 0 9;train 0 0 01;well 0 8 1;ship 1 9 0");
        road.dig(0, 5, 30);
        Road.due("open now by the digging", road.place(0, 3), 1);
        Road.due("again without it", road.again(0, 0), -2);
        Road.due("share without it", road.share(0, 0), 0);
    }
}
