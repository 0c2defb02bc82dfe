import com.sun.management.ThreadMXBean;
import java.lang.management.ManagementFactory;

/** Nothing a run makes is given back where it is judged: so calls make nothing, but for a sea that is read and a first image. */
public final class RoomTest {
    private static final ThreadMXBean BEAN = (ThreadMXBean) ManagementFactory.getThreadMXBean();
    private static final String SEA = "sea 12;train 1 3 01234567890123456;train 2 5 0123456789012345678;train 3 7 01234567890123456789;"
            + "well 0 20 1;well 3 20 2;well 5 9 3;well 8 9 4;town 1 9 1;town 2 9 1;town 6 9 1;town 7 9 1;"
            + "ship 0 30 9;ship 5 30 9;ship 6 30 20;ship 11 30 0;storm 1 9";
    private static final String RULE = "fill water<tank and price*3>=day%7 or [not well=0 and height<on+back];go day%3-1 if cell>ship;go 1";

    public static void main(String[] args) {
        DuneRoad road = new DuneRoad();
        DuneRoad other = Road.on(SEA, RULE);
        use(other);
        long before = made();
        road = new DuneRoad();
        long size = made() - before;
        Road.due("bytes of a new object: " + size, size < 60_000, true);
        road = Road.on(SEA, RULE);
        use(road);
        before = made();
        use(road);
        long more = made() - before;
        Road.due("bytes of calls: " + more, more < 2_000, true);
        before = made();
        for (int i = 0; i < 256; i++) {
            road.feed(0x73656120, 0x32000000, 0, 0, 0);
            road.end(5);
            road.sea();
        }
        more = made() - before;
        Road.due("bytes of 256 seas: " + more, more < 512_000, true);
        Road.finish();
    }

    private static long made() {
        return BEAN.getThreadAllocatedBytes(Thread.currentThread().getId());
    }

    private static void use(DuneRoad road) {
        for (int i = 0; i < 4; i++) {
            road.image(i);
        }
        for (int i = 0; i < 30; i++) {
            road.sail(i % 4, i % 3 - 1);
            road.fill(i % 4);
            road.fence(i % 12, i % 2 == 0);
            road.dig(i % 12, 1, 3);
            road.undo();
            for (int what = 0; what < 4; what++) {
                road.voyage(i % 4, i % 12, what);
                road.fences(i, i, i + 9, what);
                road.winds(i % 3, what);
                road.drawn(0, 10, 100, what);
            }
            road.again(i % 8, i);
            road.share(i % 8, 0);
            road.crest(i % 12, i);
            road.sight(i, i % 2 == 0);
            road.wreck(i);
            road.masts(i % 12);
            road.shows(i, i);
            road.told(i % 12, i, 9);
            road.rent(i % 4, i, 400);
            road.fleet(i + 1, i, i);
            road.order(i % 7);
            road.storms(12, i % 13, 0);
            road.rule();
        }
        road.run(0, 20);
        for (int i = 0; i < 4; i++) {
            road.back(i);
        }
    }
}
