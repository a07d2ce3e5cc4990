import com.sun.management.ThreadMXBean;
import java.lang.management.ManagementFactory;

/**
 * All calls of a run live in one room, of some 600,000 objects and 7.3 million fields and elements.
 * An object takes 16 bytes at least and an element one, so a run that takes fewer than MOST_BYTES
 * is far from both.
 */
public final class RoomTest {
    private static final int MOST_BYTES = 1_000_000;
    private static final int CALLS = 512;
    private static final String DEAR = "f(W,Z):-a(W,X),a(X,Y),a(Y,Z),W#Z,!b(W,Z).g(X,Z):-f(X,Y),f(Y,Z).g(X,Z):-g(X,Y),g(Y,Z).";

    private static final ThreadMXBean THREADS = (ThreadMXBean) ManagementFactory.getThreadMXBean();

    private interface Run {
        void go();
    }

    public static void main(String[] args) {
        Cases cases = new Cases("The room");
        cases.check("a run of puts, commits and crashes", expect -> fits(expect, RoomTest::transactions));
        cases.check("a run of questions", expect -> fits(expect, RoomTest::questions));
        cases.check("a run of texts, most of them faulty", expect -> fits(expect, RoomTest::texts));
        cases.finish();
    }

    /** Once ahead of it, so that what the classes take as they are loaded does not count. */
    private static void fits(Expect expect, Run run) {
        run.go();
        long ahead = taken();
        run.go();
        long bytes = taken() - ahead;
        expect.yes("a run took " + bytes + " bytes", bytes < MOST_BYTES);
    }

    private static long taken() {
        return THREADS.getThreadAllocatedBytes(Thread.currentThread().getId());
    }

    private static void transactions() {
        RuleHall hall = new RuleHall();
        Expect.type(hall, DEAR);
        hall.compile();
        for (int i = 0; i < CALLS - 32; i++) {
            if (i % 64 == 63) {
                hall.crash();
            } else if (i % 16 == 15) {
                hall.checkpoint();
            } else if (i % 4 == 3) {
                hall.commit();
            } else {
                hall.put(0, i * 5 % 12, i * 7 / 12 % 12, 0);
            }
        }
    }

    private static void questions() {
        RuleHall hall = new RuleHall();
        Expect.type(hall, DEAR);
        hall.compile();
        for (int i = 0; i < 64; i++) {
            hall.put(0, i % 12, i * 7 % 12, 0);
        }
        hall.commit();
        for (int i = 0; i < CALLS - 96; i += 4) {
            hall.derivations(6, i % 12, i / 12 % 12, 0);
            hall.changed(i, 1);
            hall.fact(6, i);
            hall.holds(5, i % 12, i / 12 % 12, 0);
        }
    }

    private static void texts() {
        RuleHall hall = new RuleHall();
        for (int i = 0; i < CALLS; i++) {
            if (i % 8 == 7) {
                Expect.throwsAtCompile(hall);
            } else {
                hall.type(0x612d3a2862292e2cL, i % 8);
            }
        }
    }
}
