import java.lang.management.ManagementFactory;

/** The room that a run of calls has: an object makes its rows once, its calls make nothing. */
public final class RoomTest {
    public static void main(String[] args) {
        com.sun.management.ThreadMXBean bean = (com.sun.management.ThreadMXBean) ManagementFactory.getThreadMXBean();
        StringBuilder text = new StringBuilder("size 24 16;groups 3;zone a people 99999,5,70000;zone b people 1,1,1;");
        for (int row = 0; row < 16; row++) {
            text.append("row ").append(row < 8 ? "a " : "b ").append(row).append(":0-23;");
        }
        String map = text.toString();
        allCalls(Check.map(map));
        long before = bean.getThreadAllocatedBytes(Thread.currentThread().getId());
        DotSpreader x = new DotSpreader();
        long made = bean.getThreadAllocatedBytes(Thread.currentThread().getId()) - before;
        // Some 15,000 fields and elements, of four bytes at most but for a few.
        Check.is("an object of " + made + " bytes is small", made < 80000, true);
        Check.feed(x, map);
        x.read();
        before = bean.getThreadAllocatedBytes(Thread.currentThread().getId());
        allCalls(x);
        made = bean.getThreadAllocatedBytes(Thread.currentThread().getId()) - before;
        Check.is("all calls make " + made + " bytes", made < 2000, true);
        Check.done("RoomTest");
    }

    private static void allCalls(DotSpreader x) {
        for (int level = 0; level < 5; level++) {
            for (int measure = 0; measure < 5; measure++) {
                x.measure(3, measure, level, 9);
                x.best(measure, level, 9);
            }
            x.apart(level);
            x.nearest(3, level);
            x.served(3, level);
            x.thinned(level, 9, 0);
            x.tour(level, 0);
            x.way(level);
            x.hull(level, 0);
            x.area(level);
            x.middle(0, level);
            x.line(true, 0, level);
            x.joined(0, 1, level);
            x.tries(0, 1, 3, 2, 9, level);
            x.dots(0, 0, level);
            x.crowd(0, 0, level);
        }
        for (int what = 0; what < 11; what++) {
            x.count(what);
            x.zone(0, what % 6);
        }
        x.move(0, 1, 7, 0, 23);
        x.flood(5, true);
        x.part(9);
        x.fits(50);
        x.scale(50);
        x.write(0);
        x.octet(3);
        x.stands(40);
        x.order(1, 3);
        x.run(0, 3, 0, true);
    }
}
