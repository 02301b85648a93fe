/** For each promise of the document: ordinary inputs, the edges that it names, and wrong inputs. */
public final class PromiseTests {
    private static final int MOST = 4194304;
    private static final int[] NO_CLASS = {0, -1, 25, Integer.MIN_VALUE, Integer.MAX_VALUE};
    private static final Due due = new Due("PromiseTests");

    public static void main(String[] args) {
        newObject();
        rows();
        families();
        familyBounds();
        builds();
        badClasses();
        gives();
        giveTightly();
        giveAlike();
        giveJoinsFirst();
        fullMemory();
        frees();
        changes();
        blocks();
        paths();
        deepestPaths();
        keeps();
        keepsByTheFreedClass();
        joins();
        nodes();
        leaves();
        counts();
        countsIfJoined();
        rooms();
        roomsAfterJoining();
        loads();
        replays();
        replayStops();
        replayFull();
        due.close();
    }

    private static BuddyRoof halves(int n, int a) {
        BuddyRoof x = new BuddyRoof();
        x.family(0, n, a, 0);
        x.build(n);
        return x;
    }

    private static String picture(BuddyRoof x) {
        StringBuilder text = new StringBuilder();
        for (int i = 0; x.leaf(i, 0) >= 0; i++) {
            text.append(i == 0 ? "" : " ").append(x.leaf(i, 0)).append(':').append(x.leaf(i, 1));
            text.append(x.leaf(i, 2) == 0 ? "" : "=" + x.leaf(i, 2));
        }
        return text.toString();
    }

    private static void shows(String what, BuddyRoof x, String want) {
        due.same(what, picture(x), want);
    }

    private static void newObject() {
        BuddyRoof x = new BuddyRoof();
        for (int k = 1; k <= 24; k++) {
            int top = k;
            due.is("1: build(" + k + ") of no rows", () -> x.build(top), -k);
        }
        noMemory(x);
    }

    private static void noMemory(BuddyRoof x) {
        due.noState("1: give", () -> x.give(1));
        due.noState("1: give(0)", () -> x.give(0));
        due.noState("1: free", () -> x.free(0));
        due.noState("1: change", () -> x.change(0, 0));
        due.noState("1: block", () -> x.block(0, 9));
        due.noState("1: path", () -> x.path(0, -1));
        due.noState("1: keep", () -> x.keep(0, 999));
        due.noState("1: join", () -> x.join());
        due.noState("1: nodes", () -> x.nodes(0, 9));
        due.noState("1: leaf", () -> x.leaf(-1, 9));
        due.noState("1: count", () -> x.count(99));
        due.noState("1: room", () -> x.room(0));
        due.noState("1: replay", () -> x.replay(-1));
    }

    private static void rows() {
        BuddyRoof x = new BuddyRoof();
        for (int k : NO_CLASS) {
            due.noArgument("2: row " + k, () -> x.row(k, 4, 0, 0));
        }
        due.done("2: any row can be told", () -> x.row(24, Integer.MIN_VALUE, -7, Integer.MAX_VALUE));
        x.row(1, 5, 0, 0);
        x.row(24, 10, 1, 1);
        due.is("2: row 24 is the top", () -> x.build(24), 2);
        x.row(1, 6, 0, 0);
        x.row(24, 12, 1, 1);
        due.is("2: the memory keeps its rows", () -> x.count(0), 10);
        due.is("2: and its children", () -> x.give(5), 0);
        due.is("2: of size 5 both", () -> x.give(5), 5);
        due.is("2: the new rows are built", () -> x.build(24), 2);
        due.is("2: with their size", () -> x.count(0), 12);
    }

    private static void families() {
        BuddyRoof x = new BuddyRoof();
        x.row(9, 4, 0, 0);
        x.family(0, 3, 5, 77);
        due.is("3: other rows become 0", () -> x.build(9), -9);
        due.is("3: halves", () -> x.build(3), 3);
        due.is("3: halves' size", () -> x.count(0), 20);
        x.give(1);
        shows("3: halves' rows", x, "0:1=1 5:1 10:2");

        x.family(1, 5, 9, 4);
        due.is("3: neighbours", () -> x.build(5), 5);
        due.is("3: neighbours' size: 9 4 13 17 30", () -> x.count(0), 30);
        x.give(4);
        shows("3: neighbours' rows", x, "0:4 17:2=4 21:1");

        x.family(2, 8, 4, -1);
        due.is("3: weighted 4", () -> x.build(4), 3);
        x.give(1);
        shows("3: weighted 4's rows", x, "0:3 12:1=1");
        due.is("3: weighted 5", () -> x.build(5), 5);
        x.give(4);
        shows("3: weighted 5's rows", x, "0:4 16:2=4");
        due.is("3: weighted 6", () -> x.build(6), 6);
        x.give(1);
        shows("3: weighted 6's rows", x, "0:5 24:2=1");
        due.is("3: weighted 7", () -> x.build(7), 7);
        x.give(13);
        shows("3: weighted 7's rows", x, "0:6 32:4=13");
        due.is("3: weighted 8", () -> x.build(8), 8);
        x.give(13);
        shows("3: weighted 8's rows", x, "0:7 48:4=13");

        x.family(2, 2, 7, 0);
        due.is("3: two of the weighted leaves", () -> x.build(2), 1);
        due.is("3: the second is twice as great", () -> x.count(0), 14);
        due.is("3: there is no third", () -> x.build(3), -3);
        x.family(1, 1, 7, 4);
        due.is("3: one neighbour alone", () -> x.build(1), 1);
        due.is("3: and no second", () -> x.build(2), -2);
    }

    private static void familyBounds() {
        BuddyRoof x = new BuddyRoof();
        x.family(0, 2, 4, 0);
        for (int n : NO_CLASS) {
            due.noArgument("3: n " + n, () -> x.family(1, n, 4, 4));
        }
        for (int kind : new int[] {-1, 3, Integer.MIN_VALUE, Integer.MAX_VALUE}) {
            due.noArgument("3: kind " + kind, () -> x.family(kind, 1, 4, 4));
        }
        for (int a : new int[] {3, 0, -4, MOST + 1, Integer.MIN_VALUE, Integer.MAX_VALUE}) {
            for (int kind = 0; kind <= 2; kind++) {
                int each = kind;
                due.noArgument("3: a " + a, () -> x.family(each, 1, a, 4));
            }
            due.noArgument("3: b " + a + " of neighbours, also where it isn't used", () -> x.family(1, 1, 4, a));
        }
        due.noArgument("3: halves too great", () -> x.family(0, 22, 4, 0));
        due.noArgument("3: neighbours too great", () -> x.family(1, 3, MOST, 4));
        due.noArgument("3: the second weighted leaf too great", () -> x.family(2, 2, MOST / 2 + 1, 0));
        due.noArgument("3: the third weighted leaf too great", () -> x.family(2, 3, MOST / 2, 0));
        due.is("3: nothing has changed", () -> x.build(2), 2);
        due.is("3: nor have the sizes", () -> x.count(0), 8);
        due.done("3: a leaf of the greatest size", () -> x.family(2, 1, MOST, 0));
        due.done("3: two weighted leaves, the greatest", () -> x.family(2, 2, MOST / 2, 0));
        due.done("3: two neighbours of the greatest size", () -> x.family(1, 2, MOST, MOST));
        due.done("3: halves up to the greatest size", () -> x.family(0, 21, 4, 0));
        due.is("3: and it can be built", () -> x.build(21), 21);
        due.is("3: with that size", () -> x.count(0), MOST);
        due.done("3: 24 neighbours", () -> x.family(1, 24, 4, 4));
        due.is("3: all are reached", () -> x.build(24), 24);
        due.is("3: their size", () -> x.count(0), 4 * 46368);
    }

    private static void builds() {
        BuddyRoof x = new BuddyRoof();
        x.family(0, 4, 4, 0);
        for (int top : NO_CLASS) {
            due.noArgument("4: top " + top, () -> x.build(top));
        }
        due.is("4: a top below the greatest class", () -> x.build(3), 3);
        due.noArgument("4: what isn't reached", () -> x.nodes(4, 0));
        x.keep(1, 9);
        x.give(4);
        due.is("4: splits before", () -> x.count(8), 2);
        x.family(0, 2, 4, 0);
        due.is("4: a bad class changes nothing", () -> x.build(3), -3);
        due.is("4: the block is still there", () -> x.block(0, 0), 1);
        x.free(0);
        due.is("4: what is kept is still kept", () -> x.nodes(1, 0), 2);
        due.is("4: a new memory", () -> x.build(2), 2);
        shows("4: is free as a whole", x, "0:2");
        due.is("4: without splits", () -> x.count(8), 0);
        due.is("4: and joins", () -> x.count(7), 0);
        due.is("4: and blocks", () -> x.count(4), 0);
        due.is("4: and requests", () -> x.count(1), 0);
        x.give(1);
        x.free(0);
        shows("4: and nothing is kept in it", x, "0:2");
        due.is("4: one join", () -> x.count(7), 1);
    }

    private static void badClasses() {
        BuddyRoof x = new BuddyRoof();
        bad(x, "size 3", new int[] {3, 0, 0}, -10);
        bad(x, "size 4", new int[] {4, 0, 0}, 1);
        bad(x, "the greatest size", new int[] {MOST, 0, 0}, 1);
        bad(x, "a greater size", new int[] {MOST + 1, 0, 0}, -10);
        bad(x, "a leaf with a right class", new int[] {8, 0, 1}, -10);
        bad(x, "a leaf with a right side that is no class", new int[] {8, 0, -1}, -10);
        bad(x, "a left side alone", new int[] {8, 11, 0}, -10);
        bad(x, "a left side of 25", new int[] {8, 25, 11}, -10);
        bad(x, "a left side of -1", new int[] {8, -1, 11}, -10);
        bad(x, "a right side of 25", new int[] {8, 11, 25}, -10);
        bad(x, "a right side of the least int", new int[] {8, 11, Integer.MIN_VALUE}, -10);
        bad(x, "two good sides", new int[] {8, 11, 11}, 2);
        bad(x, "too small a sum", new int[] {9, 11, 11}, -10);
        bad(x, "too great a sum", new int[] {7, 11, 11}, -10);
        bad(x, "itself as a side", new int[] {8, 10, 11}, -10);
        x.row(12, 0, 0, 0);
        bad(x, "a side as great as itself, but both sum up", new int[] {4, 11, 12}, -10);
        bad(x, "a side as great as itself, to the right", new int[] {4, 12, 11}, -10);
        x.row(12, 9, 0, 0);
        x.row(13, -1, 0, 0);
        bad(x, "a greater side, but both sum up", new int[] {8, 12, 13}, -10);
        x.row(12, Integer.MIN_VALUE, 0, 0);
        x.row(13, Integer.MIN_VALUE + 8, 0, 0);
        bad(x, "sides whose sum wraps round to its size", new int[] {8, 12, 13}, -10);

        x.row(1, 2, 0, 0);
        x.row(2, 7, 5, 3);
        x.row(3, 3, 0, 0);
        x.row(5, 4, 0, 0);
        x.row(6, 14, 2, 2);
        due.is("4: a bad class below the top", () -> x.build(6), -3);
        x.row(2, 7, 5, 7);
        due.is("4: what a bad class has at its sides isn't reached", () -> x.build(6), -2);
        x.row(4, 6, 5, 1);
        x.row(3, 10, 4, 5);
        x.row(7, 24, 8, 3);
        x.row(8, 14, 2, 2);
        due.is("4: the lowest of several that are bad", () -> x.build(7), -1);
        x.row(1, 4, 0, 0);
        due.is("4: then the next", () -> x.build(7), -2);
    }

    private static void bad(BuddyRoof x, String what, int[] row, int want) {
        x.row(10, row[0], row[1], row[2]);
        x.row(11, 4, 0, 0);
        due.is("4: " + what, () -> x.build(10), want);
    }

    private static void gives() {
        BuddyRoof x = halves(4, 4);
        due.noArgument("5: 0 words", () -> x.give(0));
        due.noArgument("5: -1 words", () -> x.give(-1));
        due.noArgument("5: the least int", () -> x.give(Integer.MIN_VALUE));
        due.is("5: too many words", () -> x.give(33), -1);
        due.is("5: the greatest int", () -> x.give(Integer.MAX_VALUE), -1);
        shows("5: nothing was split", x, "0:4");
        due.is("5: 1 word", () -> x.give(1), 0);
        shows("5: down to a leaf", x, "0:1=1 4:1 8:2 16:3");
        due.is("5: 5 words", () -> x.give(5), 8);
        due.is("5: 4 words", () -> x.give(4), 4);
        due.is("5: 9 words", () -> x.give(9), 16);
        shows("5: all is given", x, "0:1=1 4:1=4 8:2=5 16:3=9");
        due.is("5: none is left", () -> x.give(1), -1);
        BuddyRoof all = halves(4, 4);
        due.is("5: all words", () -> all.give(32), 0);
        shows("5: as one block", all, "0:4=32");
    }

    private static void giveTightly() {
        BuddyRoof x = halves(5, 4);
        for (int i = 0; i < 16; i++) {
            x.give(4);
        }
        x.free(0);
        x.free(4);
        x.free(36);
        x.free(60);
        shows("5: holes", x, "0:2 8:1=4 12:1=4 16:1=4 20:1=4 24:1=4 28:1=4 32:1=4 36:1 40:1=4 44:1=4 48:1=4 52:1=4 "
                + "56:1=4 60:1");
        due.is("5: the least size, not the lowest address", () -> x.give(3), 36);
        due.is("5: the least size again", () -> x.give(3), 60);
        due.is("5: then the greater one", () -> x.give(3), 0);

        BuddyRoof lop = new BuddyRoof();
        lop.row(1, 4, 0, 0);
        lop.row(2, 10, 0, 0);
        lop.row(3, 14, 2, 1);
        lop.row(4, 18, 1, 3);
        lop.row(5, 6, 0, 0);
        lop.row(6, 24, 5, 4);
        lop.build(6);
        due.is("5: the smaller child though it is the left one", () -> lop.give(5), 0);
        due.is("5: the right child if the left one doesn't hold", () -> lop.give(5), 10);
        shows("5: lopsided", lop, "0:5=5 6:1 10:2=5 20:1");
        lop.build(6);
        due.is("5: only the greater child holds", () -> lop.give(7), 10);
        due.is("5: it is taken whole if no child holds", () -> lop.give(10), -1);
        lop.build(3);
        due.is("5: the smaller child though it is the right one", () -> lop.give(2), 10);
        lop.build(3);
        due.is("5: no child holds: not split", () -> lop.give(11), 0);
        shows("5: not split", lop, "0:3=11");
    }

    private static void giveAlike() {
        BuddyRoof x = new BuddyRoof();
        x.row(1, 8, 0, 0);
        x.row(2, 8, 3, 3);
        x.row(3, 4, 0, 0);
        x.row(4, 16, 2, 1);
        x.row(5, 16, 1, 2);
        x.row(6, 32, 4, 5);
        x.build(6);
        due.is("5: alike children: the left one", () -> x.give(8), 0);
        shows("5: of either class", x, "0:2=8 8:1 16:5");
        x.build(4);
        due.is("5: the left one, down to its leaf", () -> x.give(3), 0);
        x.build(6);
        x.give(5);
        x.give(5);
        x.give(5);
        x.give(5);
        x.free(8);
        x.free(24);
        shows("5: free nodes of two classes that are alike in size", x, "0:2=5 8:1 16:1=5 24:2");
        due.is("5: the lowest address of both classes", () -> x.give(5), 8);
        x.free(0);
        x.free(8);
        x.build(6);
        x.keep(1, 9);
        x.keep(2, 9);
        x.give(5);
        x.give(5);
        x.free(0);
        x.free(8);
        shows("5: the higher class lies lower", x, "0:2 8:1 16:5");
        due.is("5: and is taken", () -> x.give(5), 0);
    }

    private static void giveJoinsFirst() {
        BuddyRoof x = halves(4, 4);
        for (int k = 1; k <= 4; k++) {
            x.keep(k, 255);
        }
        x.give(4);
        x.give(4);
        x.give(8);
        x.free(0);
        x.free(4);
        x.free(8);
        shows("5: kept apart", x, "0:1 4:1 8:2 16:3");
        due.is("5: held by what is there: nothing is joined", () -> x.give(16), 16);
        due.is("5: no joins", () -> x.count(7), 0);
        due.is("5: all is joined if none holds", () -> x.give(10), 0);
        due.is("5: two joins", () -> x.count(7), 2);
        shows("5: joined, and given", x, "0:3=10 16:3=16");
        x.free(0);
        x.give(3);
        x.free(0);
        shows("5: kept apart again", x, "0:1 4:1 8:2 16:3=16");
        due.is("5: none holds even so", () -> x.give(17), -1);
        shows("5: all is joined then", x, "0:3 16:3=16");
    }

    private static void fullMemory() {
        BuddyRoof x = halves(12, 4);
        for (int i = 0; i < 256; i++) {
            int at = 4 * i;
            due.is("5: give " + i, () -> x.give(4), at);
        }
        due.noState("5: 256 blocks", () -> x.give(4));
        due.noState("5: 256 blocks and no words", () -> x.give(0));
        due.is("7: stays with 256 blocks", () -> x.change(0, 3), 0);
        due.noState("7: can't move with 256 blocks", () -> x.change(0, 5));
        due.noState("7: also not where none could be given", () -> x.change(0, 1 << 20));
        due.noArgument("7: no words with 256 blocks", () -> x.change(0, 0));
        due.noArgument("7: no block with 256 blocks", () -> x.change(2, 5));
        due.is("7: nothing has changed", () -> x.block(0, 1), 3);
        due.is("15: no bound of 256", () -> x.room(4), 2048 - 256);
        x.free(512);
        due.is("7: moves with 255 blocks", () -> x.change(0, 5), 1024);
        due.is("7: 255 are left", () -> x.count(4), 255);
        due.is("5: the 256th", () -> x.give(1), 0);
        due.noState("5: 256 again", () -> x.give(1));
    }

    private static void frees() {
        BuddyRoof x = halves(3, 4);
        due.noArgument("6: no block at all", () -> x.free(0));
        x.give(4);
        x.give(4);
        x.give(8);
        for (int address : new int[] {-1, 1, 3, 12, 16, 17, Integer.MIN_VALUE, Integer.MAX_VALUE}) {
            due.noArgument("6: no block at " + address, () -> x.free(address));
        }
        due.done("6: a block", () -> x.free(0));
        shows("6: its buddy is live", x, "0:1 4:1=4 8:2=8");
        due.noArgument("6: twice", () -> x.free(0));
        due.done("6: a block with no free buddy", () -> x.free(8));
        shows("6: its buddy is split", x, "0:1 4:1=4 8:2");
        due.done("6: the last one", () -> x.free(4));
        shows("6: joined up to the top", x, "0:3");
        due.is("6: joins", () -> x.count(7), 2);
        due.noArgument("6: a free node is no block", () -> x.free(0));
        x.give(12);
        due.done("6: the top itself", () -> x.free(0));
        shows("6: is free", x, "0:3");
    }

    private static void changes() {
        BuddyRoof x = halves(5, 4);
        x.give(5);
        due.is("7: stays", () -> x.change(0, 8), 0);
        due.is("7: with another request", () -> x.block(0, 1), 8);
        due.is("7: stays with fewer words, is not split", () -> x.change(0, 1), 0);
        shows("7: in its node", x, "0:2=1 8:2 16:3 32:4");
        due.is("7: the books follow", () -> x.count(1), 1);
        due.is("7: the waste, too", () -> x.count(2), 7);
        due.noArgument("7: no words", () -> x.change(0, 0));
        due.noArgument("7: words below 0", () -> x.change(0, Integer.MIN_VALUE));
        due.noArgument("7: no block", () -> x.change(8, 1));
        due.is("7: given before it is freed", () -> x.change(0, 9), 16);
        shows("7: and freed after it", x, "0:3 16:3=9 32:4");
        due.noArgument("7: the old block is gone", () -> x.block(0, 0));
        due.is("7: nothing holds so many while it is there", () -> x.change(16, 64), -1);
        shows("7: it stays", x, "0:3 16:3=9 32:4");
        x.keep(3, 1);
        x.give(10);
        x.free(0);
        x.keep(1, 9);
        x.give(3);
        x.free(0);
        shows("7: kept apart", x, "0:1 4:1 8:2 16:3=9 32:4");
        due.is("7: none are given", () -> x.change(16, 33), -1);
        shows("7: all is joined then", x, "0:3 16:3=9 32:4");
        due.is("7: moves, and what is kept stays apart", () -> x.change(16, 20), 32);
        shows("7: freed and joined, as more are free than kept", x, "0:4 32:4=20");
    }

    private static void blocks() {
        BuddyRoof x = halves(5, 4);
        x.give(3);
        x.give(17);
        due.is("8: class", () -> x.block(0, 0), 1);
        due.is("8: request", () -> x.block(0, 1), 3);
        due.is("8: depth", () -> x.block(0, 2), 4);
        due.is("8: class of the other", () -> x.block(32, 0), 4);
        due.is("8: request of the other", () -> x.block(32, 1), 17);
        due.is("8: depth of the other", () -> x.block(32, 2), 1);
        for (int what : new int[] {-1, 3, Integer.MIN_VALUE, Integer.MAX_VALUE}) {
            due.noArgument("8: what " + what, () -> x.block(0, what));
        }
        for (int address : new int[] {4, 8, 33, 64, -1, Integer.MIN_VALUE, Integer.MAX_VALUE}) {
            due.noArgument("8: no block at " + address, () -> x.block(address, 0));
        }
        x.build(5);
        x.give(64);
        due.is("8: the top is at depth 0", () -> x.block(0, 2), 0);
        due.is("8: its class", () -> x.block(0, 0), 5);
    }

    private static void paths() {
        BuddyRoof x = new BuddyRoof();
        x.family(1, 6, 4, 7);
        x.build(6);
        x.give(5);
        x.give(4);
        x.give(4);
        shows("9: neighbours", x, "0:5 29:2=4 36:1=4 40:2=5");
        pathIs(x, 40, 1, 1, -1, -1);
        pathIs(x, 36, 1, 0, 1, -1);
        pathIs(x, 29, 1, 0, 0, -1);
        due.is("9: far below", () -> x.path(36, Integer.MAX_VALUE), -1);
        due.noArgument("9: above the top", () -> x.path(36, -1));
        due.noArgument("9: far above", () -> x.path(36, Integer.MIN_VALUE));
        due.noArgument("9: no block", () -> x.path(0, 0));
        BuddyRoof top = halves(2, 4);
        top.give(8);
        due.is("9: the top's own", () -> top.path(0, 0), -1);
    }

    // All 24 classes lie on one way: the greater child is always the one that holds.
    private static void deepestPaths() {
        for (int side = 0; side <= 1; side++) {
            int taken = side;
            BuddyRoof x = new BuddyRoof();
            x.row(1, 4, 0, 0);
            x.row(2, 8, 1, 1);
            for (int k = 3; k <= 24; k++) {
                x.row(k, 4 * k, taken == 0 ? k - 1 : 1, taken == 0 ? 1 : k - 1);
            }
            due.is("4: a chain of 24", () -> x.build(24), 24);
            due.is("15: room in the chain", () -> x.room(1), 24);
            due.is("15: room for 8 words", () -> x.room(8), 1);
            int address = taken == 0 ? 0 : 88;
            due.is("5: down the chain", () -> x.give(8), address);
            due.is("8: 22 deep", () -> x.block(address, 2), 22);
            due.is("14: 22 splits", () -> x.count(8), 22);
            for (int i = 0; i < 22; i++) {
                x.give(4);
            }
            x.free(address);
            int lowest = taken == 0 ? 0 : 88;
            due.is("5: the leaf at its end", () -> x.give(1), lowest);
            due.is("8: 23 deep", () -> x.block(lowest, 2), 23);
            due.is("9: the last side", () -> x.path(lowest, 22), 0);
            due.is("9: the one before", () -> x.path(lowest, 21), taken);
            due.is("9: the first side", () -> x.path(lowest, 0), taken);
            due.is("9: no deeper", () -> x.path(lowest, 23), -1);
            due.is("13: 24 nodes", () -> x.leaf(23, 0), 92);
            due.is("13: no more", () -> x.leaf(24, 0), -1);
            for (int at = 0; at < 96; at += 4) {
                int each = at;
                if (at != 92 || taken == 0) {
                    due.same("6: the chain's " + at, Due.outcome(() -> x.free(each)),
                            at == (taken == 0 ? 4 : -1) ? "throws.IllegalArgumentException" : "done");
                }
            }
            shows("6: all is joined up to the top", x, "0:24");
            due.is("14: 23 joins and 23 splits", () -> x.count(7) * 100 + x.count(8), 2323);
        }
    }

    private static void pathIs(BuddyRoof x, int address, int... side) {
        for (int i = 0; i < side.length; i++) {
            int depth = i;
            due.is("9: to " + address + " at " + i, () -> x.path(address, depth), side[depth]);
        }
    }

    private static void keeps() {
        BuddyRoof x = halves(4, 4);
        for (int k : new int[] {0, 5, 24, 25, -1, 32, 33, Integer.MIN_VALUE, Integer.MAX_VALUE}) {
            due.noArgument("10: class " + k, () -> x.keep(k, 0));
        }
        for (int many : new int[] {-1, 256, Integer.MIN_VALUE, Integer.MAX_VALUE}) {
            due.noArgument("10: so many as " + many, () -> x.keep(1, many));
        }
        due.done("10: 255", () -> x.keep(4, 255));
        due.done("10: 0", () -> x.keep(4, 0));
        x.keep(1, 2);
        x.give(1);
        x.give(1);
        x.give(1);
        x.free(0);
        x.free(4);
        shows("10: 12 is free, too, so that 4 is one too many", x, "0:2 8:1=1 12:1 16:3");
        x.build(4);
        x.keep(1, 2);
        for (int i = 0; i < 4; i++) {
            x.give(4);
        }
        x.free(0);
        x.free(4);
        shows("10: two are kept", x, "0:1 4:1 8:1=4 12:1=4 16:3");
        x.free(8);
        shows("10: a third has no free buddy", x, "0:1 4:1 8:1 12:1=4 16:3");
        x.keep(1, 0);
        shows("10: nothing is joined at once", x, "0:1 4:1 8:1 12:1=4 16:3");
        x.free(12);
        shows("10: only what is freed is joined, as far as it goes", x, "0:1 4:1 8:2 16:3");
        due.is("10: one join", () -> x.count(7), 1);
        x.build(4);
        x.keep(2, 2);
        for (int i = 0; i < 4; i++) {
            x.give(4);
        }
        x.free(0);
        x.free(4);
        x.free(8);
        x.free(12);
        shows("10: the joined ones are kept", x, "0:2 8:2 16:3");
        x.keep(2, 1);
        x.give(8);
        x.free(0);
        shows("10: now they are too many", x, "0:4");
    }

    private static void keepsByTheFreedClass() {
        BuddyRoof x = new BuddyRoof();
        x.row(1, 4, 0, 0);
        x.row(2, 6, 0, 0);
        x.row(3, 10, 1, 2);
        x.build(3);
        x.keep(1, 1);
        x.give(4);
        x.give(6);
        x.free(4);
        x.free(0);
        shows("10: class 1 is freed and kept", x, "0:1 4:2");
        x.give(4);
        x.give(6);
        x.free(0);
        x.free(4);
        shows("10: class 2 is freed and joined with it", x, "0:3");
    }

    private static void joins() {
        BuddyRoof x = halves(4, 4);
        due.is("11: nothing to join", () -> x.join(), 0);
        for (int k = 1; k <= 4; k++) {
            x.keep(k, 255);
        }
        for (int i = 0; i < 8; i++) {
            x.give(4);
        }
        for (int i = 0; i < 8; i++) {
            if (i != 5) {
                x.free(4 * i);
            }
        }
        due.is("11: over and over", () -> x.join(), 4);
        shows("11: what is live stays", x, "0:3 16:1 20:1=4 24:2");
        due.is("11: once is enough", () -> x.join(), 0);
        due.is("11: they are counted", () -> x.count(7), 4);
        x.free(20);
        due.is("11: up to the top", () -> x.join(), 3);
        shows("11: whole", x, "0:4");
    }

    private static void nodes() {
        BuddyRoof x = halves(4, 4);
        for (int k : new int[] {0, 5, 25, -1, 33, Integer.MIN_VALUE, Integer.MAX_VALUE}) {
            due.noArgument("12: class " + k, () -> x.nodes(k, 0));
        }
        for (int what : new int[] {-1, 3, Integer.MIN_VALUE, Integer.MAX_VALUE}) {
            due.noArgument("12: what " + what, () -> x.nodes(1, what));
        }
        due.is("12: the top alone", () -> x.nodes(4, 0), 1);
        due.is("12: at 0", () -> x.nodes(4, 1), 0);
        due.is("12: no leaves", () -> x.nodes(1, 0), 0);
        due.is("12: no lowest", () -> x.nodes(1, 1), -1);
        due.is("12: no highest", () -> x.nodes(1, 2), -1);
        for (int i = 0; i < 7; i++) {
            x.give(4);
        }
        x.free(4);
        x.free(12);
        due.is("12: free leaves", () -> x.nodes(1, 0), 3);
        due.is("12: the lowest", () -> x.nodes(1, 1), 4);
        due.is("12: the highest", () -> x.nodes(1, 2), 28);
        due.is("12: none is left of the top", () -> x.nodes(4, 0), 0);
        BuddyRoof gap = new BuddyRoof();
        gap.row(2, 4, 0, 0);
        gap.row(7, 8, 2, 2);
        gap.build(7);
        due.noArgument("12: a class between that isn't reached", () -> gap.nodes(3, 0));
        due.is("12: one that is", () -> gap.nodes(7, 2), 0);
    }

    private static void leaves() {
        BuddyRoof x = halves(4, 4);
        due.is("13: the top", () -> x.leaf(0, 1), 4);
        due.is("13: is free", () -> x.leaf(0, 2), 0);
        due.is("13: there is no second", () -> x.leaf(1, 0), -1);
        x.give(3);
        x.give(6);
        int[][] want = {{0, 1, 3}, {4, 1, 0}, {8, 2, 6}, {16, 3, 0}, {-1, -1, -1}};
        for (int i = 0; i < want.length; i++) {
            for (int what = 0; what < 3; what++) {
                int at = i;
                int which = what;
                due.is("13: leaf " + i + ", " + what, () -> x.leaf(at, which), want[at][which]);
            }
        }
        for (int odd : new int[] {-1, Integer.MIN_VALUE, Integer.MAX_VALUE}) {
            due.is("13: leaf " + odd, () -> x.leaf(odd, 0), -1);
            due.is("13: what " + odd, () -> x.leaf(0, odd), -1);
        }
        due.is("13: what 3", () -> x.leaf(0, 3), -1);
    }

    private static void countsAre(String what, BuddyRoof x, int... want) {
        for (int i = 0; i < want.length; i++) {
            int which = i;
            due.is("14: " + what + ", count " + i, () -> x.count(which), want[which]);
        }
    }

    private static void counts() {
        BuddyRoof x = halves(4, 4);
        countsAre("new", x, 32, 0, 0, 32, 0, 1, 32, 0, 0, 1);
        x.give(3);
        x.give(5);
        countsAre("two blocks", x, 32, 8, 4, 20, 2, 2, 16, 0, 3, 2);
        x.give(10);
        x.give(4);
        countsAre("full", x, 32, 22, 10, 0, 4, 0, 0, 0, 3, 0);
        x.free(0);
        x.free(4);
        countsAre("freed", x, 32, 15, 9, 8, 2, 1, 8, 1, 3, 1);
        for (int what : new int[] {-1, 10, Integer.MIN_VALUE, Integer.MAX_VALUE}) {
            due.is("14: count " + what, () -> x.count(what), -1);
        }
    }

    private static void countsIfJoined() {
        BuddyRoof x = halves(4, 4);
        for (int k = 1; k <= 4; k++) {
            x.keep(k, 255);
        }
        for (int i = 0; i < 8; i++) {
            x.give(4);
        }
        for (int i = 0; i < 7; i++) {
            x.free(4 * i);
        }
        countsAre("kept apart", x, 32, 4, 0, 28, 1, 7, 16, 0, 7, 3);
        shows("14: nothing is joined by counting", x, "0:1 4:1 8:1 12:1 16:1 20:1 24:1 28:1=4");
        x.free(28);
        countsAre("all free, but apart", x, 32, 0, 0, 32, 0, 8, 32, 0, 7, 1);
    }

    private static void rooms() {
        BuddyRoof x = halves(21, 4);
        due.noArgument("15: no words", () -> x.room(0));
        due.noArgument("15: below 0", () -> x.room(Integer.MIN_VALUE));
        due.is("15: 1 word", () -> x.room(1), 1 << 20);
        due.is("15: 4 words", () -> x.room(4), 1 << 20);
        due.is("15: 5 words", () -> x.room(5), 1 << 19);
        due.is("15: all words", () -> x.room(MOST), 1);
        due.is("15: more words", () -> x.room(MOST + 1), 0);
        due.is("15: the greatest int", () -> x.room(Integer.MAX_VALUE), 0);
        due.is("15: nothing is split", () -> x.count(8), 0);
        BuddyRoof lop = new BuddyRoof();
        lop.family(2, 9, 4, 0);
        lop.build(9);
        for (int words = 1; words <= 97; words++) {
            int w = words;
            lop.build(9);
            due.is("15: weighted, " + w, () -> lop.room(w), giveAll(lop, w));
        }
    }

    private static int giveAll(BuddyRoof x, int w) {
        x.build(9);
        int given = 0;
        while (x.give(w) >= 0) {
            given++;
        }
        x.build(9);
        return given;
    }

    private static void roomsAfterJoining() {
        BuddyRoof x = halves(4, 4);
        for (int k = 1; k <= 4; k++) {
            x.keep(k, 255);
        }
        for (int i = 0; i < 8; i++) {
            x.give(4);
        }
        for (int i = 0; i < 8; i++) {
            if (i != 7) {
                x.free(4 * i);
            }
        }
        due.is("15: leaves", () -> x.room(4), 7);
        due.is("15: joined pairs", () -> x.room(8), 3);
        due.is("15: joined fours", () -> x.room(9), 1);
        due.is("15: not so great", () -> x.room(17), 0);
        due.is("15: nothing is joined", () -> x.count(7), 0);
        shows("15: nothing is changed", x, "0:1 4:1 8:1 12:1 16:1 20:1 24:1 28:1=4");

        // A leaf that holds w is given before it could be joined with its buddy, that doesn't hold them.
        BuddyRoof lop = new BuddyRoof();
        lop.row(1, 4, 0, 0);
        lop.row(2, 6, 0, 0);
        lop.row(3, 10, 2, 1);
        lop.row(4, 20, 3, 3);
        lop.build(4);
        for (int k = 1; k <= 4; k++) {
            lop.keep(k, 255);
        }
        lop.give(6);
        lop.give(4);
        lop.free(0);
        lop.free(6);
        shows("15: lopsided", lop, "0:2 6:1 10:3");
        due.is("15: 5 words", () -> lop.room(5), 2);
        due.is("15: 7 words, once joined", () -> lop.room(7), 2);
        due.is("15: 11 words, once all is joined", () -> lop.room(11), 1);
        due.is("15: 3 words", () -> lop.room(3), 4);
    }

    private static void loads() {
        BuddyRoof x = new BuddyRoof();
        for (int i : new int[] {-1, 256, Integer.MIN_VALUE, Integer.MAX_VALUE}) {
            due.noArgument("16: entry " + i, () -> x.load(i, 0));
        }
        due.done("16: the first", () -> x.load(0, Integer.MIN_VALUE));
        due.done("16: the last", () -> x.load(255, 4));
        x.load(0, 9);
        x.load(1, 4);
        x.family(0, 4, 4, 0);
        x.build(4);
        due.is("16: they are there without a memory, and stay", () -> x.replay(2), 0);
        shows("16: the newest is played", x, "0:3=9 16:1=4 20:1 24:2");
        x.build(4);
        due.is("16: the script outlives the memory", () -> x.replay(1), 0);
        shows("16: and is played again", x, "0:3=9 16:3");
    }

    private static void script(BuddyRoof x, int... entries) {
        for (int i = 0; i < entries.length; i++) {
            x.load(i, entries[i]);
        }
    }

    private static void replays() {
        BuddyRoof x = halves(4, 4);
        for (int n : new int[] {-1, 257, Integer.MIN_VALUE, Integer.MAX_VALUE}) {
            due.noArgument("17: n " + n, () -> x.replay(n));
        }
        due.is("17: an empty replay", () -> x.replay(0), 0);
        due.is("17: entries never loaded join", () -> x.replay(256), 0);
        x.keep(1, 255);
        x.keep(2, 255);
        script(x, 3, 4, 5, -1, -2, 0, 6);
        due.is("17: up to the frees", () -> x.replay(5), 0);
        shows("17: given and freed", x, "0:1 4:1 8:2=5 16:3");
        x.build(4);
        x.keep(1, 255);
        x.keep(2, 255);
        due.is("17: with the join", () -> x.replay(6), 0);
        shows("17: joined", x, "0:2 8:2=5 16:3");
        due.is("17: one join", () -> x.count(7), 1);
        x.build(4);
        due.is("17: all", () -> x.replay(7), 0);
        shows("17: given again", x, "0:2=6 8:2=5 16:3");
    }

    private static void replayStops() {
        BuddyRoof x = halves(4, 4);
        script(x, 4, -1, -1);
        due.is("17: freed twice", () -> x.replay(3), 3);
        shows("17: what went before is done", x, "0:4");
        script(x, -1, 4);
        due.is("17: its own entry", () -> x.replay(1), 1);
        script(x, -2, 4);
        due.is("17: an entry further on", () -> x.replay(2), 1);
        due.is("17: nothing is done behind it", () -> x.count(4), 0);
        script(x, 0, -1);
        due.is("17: an entry that joins gives nothing", () -> x.replay(2), 2);
        script(x, 4, -1, -2);
        due.is("17: an entry that frees gives nothing", () -> x.replay(3), 3);
        for (int v : new int[] {-256, -257, -300, Integer.MIN_VALUE}) {
            script(x, v);
            due.is("17: no such entry " + v, () -> x.replay(1), 1);
        }
        script(x, 4, 8);
        due.is("17: a replay of two", () -> x.replay(2), 0);
        script(x, 0, 0, -1);
        due.is("17: blocks of an earlier replay aren't its own", () -> x.replay(3), 3);
        script(x, 4, -1, 4, -1);
        x.build(4);
        due.is("17: freed, though another has its place", () -> x.replay(4), 4);
        due.is("17: that one stays", () -> x.count(4), 1);
        script(x, 4, 4, 33, 4);
        x.build(4);
        x.keep(1, 255);
        x.give(4);
        x.free(0);
        due.is("17: no words are given", () -> x.replay(4), 3);
        shows("17: it stops there", x, "0:1=4 4:1=4 8:2 16:3");
        script(x, 33);
        x.free(0);
        x.free(4);
        shows("17: kept apart", x, "0:1 4:1 8:2 16:3");
        due.is("17: no words are given at all", () -> x.replay(1), 1);
        shows("17: all is joined then", x, "0:4");
    }

    private static void replayFull() {
        BuddyRoof x = halves(10, 4);
        for (int i = 0; i < 256; i++) {
            x.load(i, 1);
        }
        x.give(1);
        due.is("17: there are 256 blocks", () -> x.replay(256), 256);
        due.is("17: all are given", () -> x.count(4), 256);
        x.free(0);
        x.free(4);
        due.is("17: two have room again", () -> x.replay(3), 3);

        BuddyRoof apart = halves(12, 4);
        for (int i = 0; i < 256; i++) {
            apart.load(i, 9);
        }
        apart.keep(2, 255);
        apart.give(8);
        apart.give(8);
        apart.free(0);
        apart.free(8);
        due.is("17: 256 gives", () -> apart.replay(256), 0);
        due.is("17: at 256 blocks the first entry can't be done", () -> apart.replay(256), 1);
        due.is("17: and nothing is joined", () -> apart.nodes(2, 0), 2);
        due.noState("5: no words at 256 blocks", () -> apart.give(9));
        due.is("5: nor is anything joined", () -> apart.nodes(2, 0), 2);
        apart.load(0, 0);
        due.is("17: joining can be done, giving can't", () -> apart.replay(256), 2);
        due.is("17: it is joined then", () -> apart.nodes(3, 1), 0);
    }
}
