import com.sun.management.ThreadMXBean;
import java.lang.management.ManagementFactory;

/** Runs that make as much as 512 calls can: all that one run makes must fit in its room. */
public final class RoomTest {
    /** 600,000 objects and 7.3 million elements at 8 bytes and 16 a head are more than this. */
    private static final long ROOM = 24_000_000;

    private static final ThreadMXBean THREADS = (ThreadMXBean) ManagementFactory.getThreadMXBean();

    public static void main(String[] args) {
        Bench.about("room");
        Runnable[] runs = {RoomTest::manyCopies, RoomTest::manyConflicts, RoomTest::manyVersions, RoomTest::manyValues, RoomTest::manyTexts};
        String[] names = {"copies", "conflicts", "versions", "values", "texts"};
        for (Runnable run : runs) {
            run.run();
        }
        for (int i = 0; i < runs.length; i++) {
            long before = THREADS.getThreadAllocatedBytes(Thread.currentThread().getId());
            runs[i].run();
            long made = THREADS.getThreadAllocatedBytes(Thread.currentThread().getId()) - before;
            System.out.println("room of " + names[i] + ": " + made + " bytes");
            Bench.due("room of " + names[i] + " kept to", made <= ROOM, true);
        }
        Bench.finish();
    }

    private static Bench large() {
        Bench b = new Bench();
        for (int i = 8; i < 32; i++) {
            b.x.insert(0, 1);
        }
        for (int i = 6; i < 10; i++) {
            b.x.insert(1, 1);
        }
        return b;
    }

    private static void fill(Bench b, String text) {
        b.in("A1", text);
        for (int n = 1; n < 10; n *= 2) {
            b.x.copy(1, 1, 1, Math.min(n, 10 - n), 1, n + 1);
        }
        for (int n = 1; n < 32; n *= 2) {
            b.x.copy(1, 1, Math.min(n, 32 - n), 10, n + 1, 1);
        }
    }

    private static void manyCopies() {
        Bench b = large();
        fill(b, "=A1");
        for (int i = 0; i < 187; i++) {
            Bench.of(() -> b.x.copy(1, 1, 32, 10, 1, 1));
            b.x.kind(-1, 32, 10);
        }
    }

    private static void manyConflicts() {
        Bench b = large();
        b.x.commit();
        fill(b, "1");
        b.x.commit();
        fill(b, "2");
        b.x.commit();
        fill(b, "3");
        b.x.commit();
        for (int i = 0; i < 200; i++) {
            b.x.pick(2);
            b.x.drop();
        }
    }

    private static void manyVersions() {
        Bench b = large();
        fill(b, "=$A1&B1@0&\"abcdefghijklmnopqrst\"");
        for (int v = 1; v < 40; v++) {
            b.in("A1", "=A1@" + (v - 1)).x.commit();
            b.x.kind(v, 32, 10);
        }
    }

    private static void manyValues() {
        Bench b = large();
        fill(b, "=SUM(A1:F8@0)&$A1@0&RIGHT(\"abcdefgh\"&ROW(A1),5)");
        for (int i = 0; i < 220; i++) {
            b.x.move(0, 1, 32);
            b.x.kind(-1, 1, 1);
        }
    }

    private static void manyTexts() {
        Bench b = new Bench();
        for (int i = 0; i < 20; i++) {
            b.tape("=" + "1+".repeat(199));
            Bench.of(() -> b.x.enter(1, 1));
        }
        b.in("A1", "=" + "\"a\"&".repeat(29) + "1");
        for (int i = 0; i < 80; i++) {
            b.x.written(-1, 1, 1, i);
        }
    }
}
