/** The boundaries of promises 1 (a new object), 2 (feed) and 3 (end). */
public final class TapeBoundsTest {
    public static void main(String[] args) {
        noSeaNoRules("new", Starts.NEW);
        noSeaNoRules("no sea", Starts.NO_SEA);
        whatGoesWithoutSea();
        objectsShareNothing();
        twentyBytes();
        highestFirst();
        tapeOf400();
        endOfBytes();
        cutBytesAreGone();
        Road.finish();
    }

    /** Promise 1, and "no SEA" of all the others: each call in its order. */
    private static void noSeaNoRules(String what, Bounds.Start start) {
        Bounds.still(what + " height", start, -1, road -> road.height(0, 0));
        Bounds.still(what + " train", start, -1, road -> road.train(0, 0));
        Bounds.still(what + " place", start, -1, road -> road.place(0, 0));
        Bounds.still(what + " town", start, -1, road -> road.place(4, 0));
        Bounds.still(what + " ship", start, -2, road -> road.ship(0, 0));
        Bounds.still(what + " sail", start, -1, road -> road.sail(0, 0));
        Bounds.still(what + " fill", start, -1, road -> road.fill(0));
        Bounds.still(what + " fence", start, 0, road -> road.fence(0, true) ? 1 : 0);
        Bounds.still(what + " no fence", start, 0, road -> road.fence(0, false) ? 1 : 0);
        Bounds.still(what + " dig", start, -1, road -> road.dig(0, 1, 1));
        Bounds.still(what + " undo", start, -2, DuneRoad::undo);
        Bounds.still(what + " run", start, -1, road -> road.run(0, 1));
        Bounds.still(what + " round", start, -1, DuneRoad::round);
        Bounds.still(what + " again", start, -1, road -> road.again(0, 0));
        Bounds.still(what + " share", start, -1, road -> road.share(0, 0));
        Bounds.still(what + " crest", start, -1, road -> road.crest(0, 0));
        Bounds.still(what + " voyage", start, -4, road -> road.voyage(0, 0, 0));
        Bounds.still(what + " fences", start, -1, road -> road.fences(0, 0, 0, 0));
        Bounds.still(what + " sight", start, -2, road -> road.sight(0, true));
        Bounds.still(what + " sight none", start, 0, road -> road.sight(-1, true));
        Bounds.still(what + " wreck", start, -1, road -> road.wreck(0));
        Bounds.still(what + " masts", start, -1, road -> road.masts(0));
        Bounds.still(what + " shows", start, -1, road -> road.shows(0, 0));
        Bounds.still(what + " told", start, -2, road -> road.told(0, 0, 0));
        Bounds.still(what + " told none", start, 0, road -> road.told(-1, 0, 0));
        Bounds.still(what + " winds", start, -1, road -> road.winds(0, 0));
        Bounds.still(what + " rent", start, -1, road -> road.rent(0, 0, 0));
        Bounds.still(what + " fleet", start, -2, road -> road.fleet(1, 0, 0));
        Bounds.still(what + " fleet none", start, 0, road -> road.fleet(-1, 0, 0));
        Bounds.still(what + " order", start, -1, road -> road.order(0));
        Bounds.still(what + " order of a place", start, -1, road -> road.order(1));
        Bounds.still(what + " storms", start, -1, road -> road.storms(0, 0, 0));
        Bounds.still(what + " drawn", start, -1, road -> road.drawn(0, 1, 1, 0));
        Bounds.still(what + " back", start, -1, road -> road.back(0));
    }

    private static void whatGoesWithoutSea() {
        DuneRoad road = new DuneRoad();
        for (int what = 0; what <= 17; what++) {
            Road.due("new count " + what, road.count(what), what == 15 ? -1 : 0);
        }
        Road.due("an image of no sea", road.image(3), 0);
        Road.due("x", road.seed(9), 0);
        Road.due("back to it", road.back(3), 0);
        Road.due("x as it was", road.count(16), 0);
        Road.feed(road, "go 1");
        Road.due("a rule", road.rule(), 0);
        Road.due("one rule", road.count(5), 1);
        Road.due("but no sea", road.count(0), 0);
    }

    private static void objectsShareNothing() {
        DuneRoad other = Bounds.road(Starts.FULL);
        Bounds.same("a new object beside a full one", road -> other.image(0), Starts.NEW);
    }

    /** Promise 2: a text of just twenty bytes, in which each byte tells something. */
    private static void twentyBytes() {
        DuneRoad road = new DuneRoad();
        // "sea 12;ship 11 30 20"
        Road.due("feed", road.feed(0x73656120, 0x31323b73, 0x68697020, 0x31312033, 0x30203230), 20);
        Road.due("bytes", road.count(17), 20);
        Road.due("cells", road.sea(), 12);
        int[] due = {11, 30, 30, 20};
        for (int what = 0; what < 4; what++) {
            Road.due("ship 0 " + what, road.ship(0, what), due[what]);
        }
    }

    /** One byte that stands nowhere at each place among blanks: the fault tells where it came. */
    private static void highestFirst() {
        for (int sign : new int[] {1, 127, 128, 255}) {
            for (int place = 0; place < 20; place++) {
                int[] n = new int[5];
                for (int i = 0; i < 20; i++) {
                    n[i / 4] = n[i / 4] << 8 | (i == place ? sign : 32);
                }
                DuneRoad road = new DuneRoad();
                road.feed(n[0], n[1], n[2], n[3], n[4]);
                Road.due("byte " + sign + " at " + place, road.sea(), Road.fault(place, 0));
            }
        }
    }

    private static Bounds.Start tape(int bytes) {
        return road -> {
            for (int have = 0; have < bytes; have += 20) {
                road.feed(0x73656120, 0x32202020, 0x20202020, 0x20202020, 0x20202020);
            }
            road.end(bytes);
        };
    }

    private static void tapeOf400() {
        Bounds.Call feed = road -> road.feed(1, 2, 3, 4, 5);
        Road.due("0 and 20", feed.on(Bounds.road(tape(0))), 20);
        Road.due("379 and 20", feed.on(Bounds.road(tape(379))), 399);
        Road.due("380 and 20", feed.on(Bounds.road(tape(380))), 400);
        Bounds.still("381 and 20", tape(381), -1, feed);
        Bounds.still("399 and 20", tape(399), -1, feed);
        Bounds.still("400 and 20", tape(400), -1, feed);
        Bounds.still("a full tape and all else", Starts.FULL, -1, feed);
        // The last of 400 bytes is read, too.
        DuneRoad road = new DuneRoad();
        for (int i = 0; i < 20; i++) {
            road.feed(0x20202020, 0x20202020, 0x20202020, 0x20202020, i < 19 ? 0x20202020 : 0x20202001);
        }
        Road.due("the byte at 399", road.sea(), Road.fault(399, 0));
    }

    private static void endOfBytes() {
        for (int bytes : new int[] {0, 1, 20, 399, 400}) {
            Bounds.Start start = tape(bytes);
            Bounds.taken("end of " + bytes, start, 0, bytes, -1, DuneRoad::end);
            Road.due("end 0 of " + bytes, Bounds.road(start).end(0), 0);
            Bounds.still("end of all of " + bytes, start, bytes, road -> road.end(bytes));
            DuneRoad road = Bounds.road(start);
            road.end(bytes / 2);
            Road.due("bytes then", road.count(17), bytes / 2);
            Road.due("no way back", road.end(bytes / 2 + 1), -1);
        }
        Bounds.taken("end in a rich state", Starts.RICH, 0, 27, -1, DuneRoad::end);
        Bounds.taken("end in a full state", Starts.FULL, 0, 400, -1, DuneRoad::end);
        Bounds.same("by end the tape alone changes", road -> {
            Starts.RICH.on(road);
            road.end(5);
            road.end(0);
        }, Starts.RICH_WITHOUT_TAPE);
    }

    private static void cutBytesAreGone() {
        DuneRoad road = new DuneRoad();
        Road.feed(road, "sea 12;ground 0 20  ");
        Road.due("cut", road.end(5), 5);
        Road.feed(road, "2;ground 1 7");
        Road.due("what comes behind it", road.sea(), 12);
        Road.due("ground as told anew", road.height(1, 0), 7);
        Road.due("no other ground", road.height(0, 0), 0);
        Road.feed(road, "sea 3");
        road.end(0);
        Road.due("all cut", road.sea(), Road.fault(0, 0));
    }
}
