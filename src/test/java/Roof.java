/**
 * A BuddyRoof as the tests use it: for at most 512 calls, since what later calls answer is free. A test that asks
 * more of one object is itself wrong, and ends the run.
 */
final class Roof {
    static final int MOST_CALLS = 512;
    static final int MOST_WORDS = 4194304;
    static final int LEAST = Integer.MIN_VALUE;
    static final int GREATEST = Integer.MAX_VALUE;

    private final BuddyRoof real = new BuddyRoof();
    private int calls = 0;

    static Roof halves(int n, int a) {
        Roof x = new Roof();
        x.family(0, n, a, 0);
        x.build(n);
        return x;
    }

    /** Class k, of 4 k words, is of class k - 1 at a side (0 left, 1 right) and class 1 at the other; the top is 24. */
    static Roof chain(int side) {
        Roof x = new Roof();
        x.row(1, 4, 0, 0);
        for (int k = 2; k <= 24; k++) {
            x.row(k, 4 * k, side == 0 ? k - 1 : 1, side == 0 ? 1 : k - 1);
        }
        x.build(24);
        return x;
    }

    int callsLeft() {
        return MOST_CALLS - calls;
    }

    private BuddyRoof used() {
        if (calls >= MOST_CALLS) {
            throw new AssertionError("a test uses one object for more than 512 calls");
        }
        calls++;
        return real;
    }

    void row(int k, int size, int left, int right) {
        used().row(k, size, left, right);
    }

    void family(int kind, int n, int a, int b) {
        used().family(kind, n, a, b);
    }

    int build(int top) {
        return used().build(top);
    }

    int give(int w) {
        return used().give(w);
    }

    void free(int address) {
        used().free(address);
    }

    int change(int address, int w) {
        return used().change(address, w);
    }

    int block(int address, int what) {
        return used().block(address, what);
    }

    int path(int address, int i) {
        return used().path(address, i);
    }

    void keep(int k, int many) {
        used().keep(k, many);
    }

    int join() {
        return used().join();
    }

    int nodes(int k, int what) {
        return used().nodes(k, what);
    }

    int leaf(int i, int what) {
        return used().leaf(i, what);
    }

    int count(int what) {
        return used().count(what);
    }

    int room(int w) {
        return used().room(w);
    }

    void load(int i, int v) {
        used().load(i, v);
    }

    int replay(int n) {
        return used().replay(n);
    }

    void giveTimes(int times, int w) {
        for (int i = 0; i < times; i++) {
            give(w);
        }
    }

    /** Many blocks in few calls: so many entries of the script give w words each, and are replayed so many times. */
    void giveByScript(int entries, int times, int w) {
        for (int i = 0; i < entries; i++) {
            load(i, w);
        }
        for (int i = 0; i < times; i++) {
            replay(entries);
        }
    }

    void freeAll(int... addresses) {
        for (int address : addresses) {
            free(address);
        }
    }

    void keepAll(int classes, int many) {
        for (int k = 1; k <= classes; k++) {
            keep(k, many);
        }
    }

    void loadAll(int... entries) {
        for (int i = 0; i < entries.length; i++) {
            load(i, entries[i]);
        }
    }

    /** The nodes that aren't split: address, class and, of a block, its request. */
    String picture() {
        StringBuilder text = new StringBuilder();
        int address = leaf(0, 0);
        for (int i = 1; address >= 0; i++) {
            int request = leaf(i - 1, 2);
            text.append(i == 1 ? "" : " ").append(address).append(':').append(leaf(i - 1, 1));
            text.append(request == 0 ? "" : "=" + request);
            address = leaf(i, 0);
        }
        return text.toString();
    }

    /** All ten counts in their order. */
    String counts() {
        StringBuilder text = new StringBuilder();
        for (int what = 0; what <= 9; what++) {
            text.append(what == 0 ? "" : " ").append(count(what));
        }
        return text.toString();
    }
}
