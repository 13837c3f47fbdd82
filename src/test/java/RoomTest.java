import java.lang.management.ManagementFactory;

/** An object makes its rows when it is made; 512 of the dearest calls make nothing more. */
public final class RoomTest {
    private static final long MOST_NEW = 20_000;
    private static final long MOST_LATER = 4_000;
    private static final int CALLS = 512;

    private static long made() {
        com.sun.management.ThreadMXBean bean = (com.sun.management.ThreadMXBean) ManagementFactory.getThreadMXBean();
        return bean.getThreadAllocatedBytes(Thread.currentThread().getId());
    }

    private static ReasonsSupplied full() {
        ReasonsSupplied x = new ReasonsSupplied();
        Check.text(x, "199876;298765;397654;496543;595432;694321;793210;891234");
        x.grounds();
        Check.text(x, "15555;24444;33333;46666;57777;62222");
        x.people();
        Check.text(x, "a>8b<1c>8;a<1b>8c<1;b>8c<1d>8;c>8d<1a>8;d>8a<1b>8;d<1a>8b<1");
        x.wants();
        Check.text(x, "((t>v)-(t<v))*(g/3+e/4+d*s/99-n*0)-0+0*1");
        x.rule();
        return x;
    }

    private static long one(ReasonsSupplied x, int kind, int i) {
        switch (kind) {
            case 0:
                return x.fewest(i % 6, i % 6, 20);
            case 1:
                return x.shares(20);
            case 2:
                return x.covers(20);
            case 3:
                return x.looks(i % 6, 30);
            case 4:
                return x.years(i, 60);
            case 5:
                return x.days(60) + x.undo();
            case 6:
                return x.settles(i % 6) + x.when(i % 6, i % 6);
            case 7:
                return x.gives(i % 6, i % 8) + x.undo();
            default:
                return x.serves(i % 6, 60) + x.fits(i % 6) + (x.keep(0) && x.again(0) ? 1 : 0);
        }
    }

    public static void main(String[] args) {
        Check check = new Check("room");
        full();
        made();
        long before = made();
        ReasonsSupplied x = new ReasonsSupplied();
        long atFirst = made() - before;
        check.due("a new object takes at most " + MOST_NEW + " bytes, not " + atFirst, atFirst <= MOST_NEW ? 1 : 0, 1);
        x = full();
        check.due("wants", x.count(2), 6);
        for (int kind = 0; kind <= 8; kind++) {
            one(x, kind, 0);
            long since = made();
            long start = System.nanoTime();
            for (int i = 0; i < (kind == 0 ? 64 : CALLS); i++) {
                one(x, kind, i);
            }
            long more = made() - since;
            if (args.length > 0) {
                System.out.println("kind " + kind + ": " + (System.nanoTime() - start) / 1_000_000 + " ms, " + more + " bytes");
            }
            check.due("calls of kind " + kind + " make nothing, not " + more + " bytes", more <= MOST_LATER ? 1 : 0, 1);
        }
        check.end();
    }
}
