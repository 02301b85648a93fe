import com.sun.management.ThreadMXBean;
import java.lang.management.ManagementFactory;

/** What heavy runs of 512 calls make stays far below the room of one run, and what is made is used again. */
public final class WeightTests {
    private static final long ROOM_BYTES = 4L * 7_300_000;
    private static final Due due = new Due("WeightTests");
    private static final ThreadMXBean meter = (ThreadMXBean) ManagementFactory.getThreadMXBean();

    public static void main(String[] args) {
        lightObjects();
        rebuilt();
        splitAndJoined();
        rippedApart();
        due.close();
    }

    private static long made() {
        return meter.getThreadAllocatedBytes(Thread.currentThread().getId());
    }

    private static void lighter(String what, long bytes, long bound) {
        due.same(what + " makes " + bytes + " bytes: less than " + bound, "" + (bytes < bound), "true");
    }

    private static void lightObjects() {
        Roof[] many = new Roof[512];
        long before = made();
        for (int i = 0; i < many.length; i++) {
            many[i] = new Roof();
        }
        lighter("512 objects", made() - before, ROOM_BYTES / 4);
        due.is("the last is one of its own", () -> many[511].build(1), -1);
    }

    private static void rebuilt() {
        Roof x = new Roof();
        x.family(0, 21, 4, 0);
        for (int i = 0; i < 200; i++) {
            x.load(i, i % 2 == 0 ? 1 + i : -i);
        }
        x.build(21);
        x.replay(200);
        int sum = 0;
        long before = made();
        for (int i = 0; i < 40; i++) {
            x.family(0, 21, 4, 0);
            sum += x.build(21) + x.replay(200) + x.room(4) + x.count(6) + x.count(9) + x.join();
        }
        lighter("what is built again and again", made() - before, ROOM_BYTES / 64);
        due.same("its answers", "" + sum, "" + 40 * (21 + (1 << 20) + (1 << 22) + 1));
    }

    // The most splits that 512 calls can ask for: were their nodes not used again, they would fill the room.
    private static void splitAndJoined() {
        Roof x = Roof.halves(21, 4);
        for (int i = 0; i < 256; i++) {
            x.load(i, i % 2 == 0 ? 1 : -i);
        }
        long before = made();
        for (int i = 0; i < 250; i++) {
            x.replay(256);
        }
        lighter("what is split and joined again and again", made() - before, ROOM_BYTES / 64);
        due.is("its splits", () -> x.count(8), 250 * 128 * 20);
        due.is("its joins", () -> x.count(7), 250 * 128 * 20);
    }

    // Chains that leave a small node behind at each step, kept apart in all sizes.
    private static void rippedApart() {
        Roof x = new Roof();
        long before = made();
        x.row(1, 4, 0, 0);
        x.row(2, 8, 0, 0);
        for (int k = 3; k <= 14; k++) {
            x.row(k, 4 * k, k - 1, 1);
        }
        for (int k = 15; k <= 24; k++) {
            x.row(k, 4 * 14 << k - 14, k - 1, k - 1);
        }
        due.is("the ripped one", () -> x.build(24), 24);
        for (int k = 1; k <= 24; k++) {
            x.keep(k, 255);
        }
        for (int i = 0; i < 128; i++) {
            x.load(i, 8 + 4 * (i % 12));
            x.load(128 + i, -1 - i);
        }
        for (int i = 0; i < 150; i++) {
            due.is("a replay of the ripped one", () -> x.replay(256), 0);
        }
        lighter("the ripped one", made() - before, ROOM_BYTES / 4);
    }
}
