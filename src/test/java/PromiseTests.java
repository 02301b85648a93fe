/** Ordinary runs of calls for the promises 2 to 17; their boundary cases have tests of their own in other files. */
public final class PromiseTests {
    private static final int MOST = Roof.MOST_WORDS;
    private static final int[] NO_CLASS = {0, -1, 25, Integer.MIN_VALUE, Integer.MAX_VALUE};
    private static final Due due = new Due("PromiseTests");

    public static void main(String[] args) {
        rows();
        families();
        builds();
        gives();
        giveTightly();
        giveAlike();
        giveJoinsFirst();
        frees();
        changes();
        blocks();
        paths();
        deepestPaths();
        keeps();
        keepsByTheFreedClass();
        joins();
        nodes();
        leaves();
        counts();
        countsIfJoined();
        rooms();
        roomsAfterJoining();
        loads();
        replays();
        replayStops();
        replayFull();
        due.close();
    }

    private static void rows() {
        Roof x = new Roof();
        for (int k : NO_CLASS) {
            due.noArgument("2: row " + k, () -> x.row(k, 4, 0, 0));
        }
        due.done("2: any row can be told", () -> x.row(24, Integer.MIN_VALUE, -7, Integer.MAX_VALUE));
        x.row(1, 5, 0, 0);
        x.row(24, 10, 1, 1);
        due.is("2: row 24 is the top", () -> x.build(24), 2);
        x.row(1, 6, 0, 0);
        x.row(24, 12, 1, 1);
        due.is("2: the memory keeps its rows", () -> x.count(0), 10);
        due.is("2: and its children", () -> x.give(5), 0);
        due.is("2: of size 5 both", () -> x.give(5), 5);
        due.is("2: the new rows are built", () -> x.build(24), 2);
        due.is("2: with their size", () -> x.count(0), 12);
    }

    private static void families() {
        Roof x = new Roof();
        x.row(9, 4, 0, 0);
        x.family(0, 3, 5, 77);
        due.is("3: other rows become 0", () -> x.build(9), -9);
        due.is("3: halves", () -> x.build(3), 3);
        due.is("3: halves' size", () -> x.count(0), 20);
        x.give(1);
        due.shows("3: halves' rows", x, "0:1=1 5:1 10:2");

        x.family(1, 5, 9, 4);
        due.is("3: neighbours", () -> x.build(5), 5);
        due.is("3: neighbours' size: 9 4 13 17 30", () -> x.count(0), 30);
        x.give(4);
        due.shows("3: neighbours' rows", x, "0:4 17:2=4 21:1");

        x.family(2, 8, 4, -1);
        due.is("3: weighted 4", () -> x.build(4), 3);
        x.give(1);
        due.shows("3: weighted 4's rows", x, "0:3 12:1=1");
        due.is("3: weighted 5", () -> x.build(5), 5);
        x.give(4);
        due.shows("3: weighted 5's rows", x, "0:4 16:2=4");
        due.is("3: weighted 6", () -> x.build(6), 6);
        x.give(1);
        due.shows("3: weighted 6's rows", x, "0:5 24:2=1");
        due.is("3: weighted 7", () -> x.build(7), 7);
        x.give(13);
        due.shows("3: weighted 7's rows", x, "0:6 32:4=13");
        due.is("3: weighted 8", () -> x.build(8), 8);
        x.give(13);
        due.shows("3: weighted 8's rows", x, "0:7 48:4=13");

        x.family(2, 2, 7, 0);
        due.is("3: two of the weighted leaves", () -> x.build(2), 1);
        due.is("3: the second is twice as great", () -> x.count(0), 14);
        due.is("3: there is no third", () -> x.build(3), -3);
        x.family(1, 1, 7, 4);
        due.is("3: one neighbour alone", () -> x.build(1), 1);
        due.is("3: and no second", () -> x.build(2), -2);
    }

    private static void builds() {
        Roof x = new Roof();
        x.family(0, 4, 4, 0);
        for (int top : NO_CLASS) {
            due.noArgument("4: top " + top, () -> x.build(top));
        }
        due.is("4: a top below the greatest class", () -> x.build(3), 3);
        due.noArgument("4: what isn't reached", () -> x.nodes(4, 0));
        x.keep(1, 9);
        x.give(4);
        due.is("4: splits before", () -> x.count(8), 2);
        x.family(0, 2, 4, 0);
        due.is("4: a bad class changes nothing", () -> x.build(3), -3);
        due.is("4: the block is still there", () -> x.block(0, 0), 1);
        x.free(0);
        due.is("4: what is kept is still kept", () -> x.nodes(1, 0), 2);
        due.is("4: a new memory", () -> x.build(2), 2);
        due.shows("4: is free as a whole", x, "0:2");
        due.is("4: without splits", () -> x.count(8), 0);
        due.is("4: and joins", () -> x.count(7), 0);
        due.is("4: and blocks", () -> x.count(4), 0);
        due.is("4: and requests", () -> x.count(1), 0);
        x.give(1);
        x.free(0);
        due.shows("4: and nothing is kept in it", x, "0:2");
        due.is("4: one join", () -> x.count(7), 1);
    }

    private static void gives() {
        Roof x = Roof.halves(4, 4);
        due.noArgument("5: 0 words", () -> x.give(0));
        due.noArgument("5: -1 words", () -> x.give(-1));
        due.noArgument("5: the least int", () -> x.give(Integer.MIN_VALUE));
        due.is("5: too many words", () -> x.give(33), -1);
        due.is("5: the greatest int", () -> x.give(Integer.MAX_VALUE), -1);
        due.shows("5: nothing was split", x, "0:4");
        due.is("5: 1 word", () -> x.give(1), 0);
        due.shows("5: down to a leaf", x, "0:1=1 4:1 8:2 16:3");
        due.is("5: 5 words", () -> x.give(5), 8);
        due.is("5: 4 words", () -> x.give(4), 4);
        due.is("5: 9 words", () -> x.give(9), 16);
        due.shows("5: all is given", x, "0:1=1 4:1=4 8:2=5 16:3=9");
        due.is("5: none is left", () -> x.give(1), -1);
        Roof all = Roof.halves(4, 4);
        due.is("5: all words", () -> all.give(32), 0);
        due.shows("5: as one block", all, "0:4=32");
    }

    private static void giveTightly() {
        Roof x = Roof.halves(5, 4);
        x.giveTimes(16, 4);
        x.freeAll(0, 4, 36, 60);
        due.shows("5: holes", x, "0:2 8:1=4 12:1=4 16:1=4 20:1=4 24:1=4 28:1=4 32:1=4 36:1 40:1=4 44:1=4 48:1=4 52:1=4 "
                + "56:1=4 60:1");
        due.is("5: the least size, not the lowest address", () -> x.give(3), 36);
        due.is("5: the least size again", () -> x.give(3), 60);
        due.is("5: then the greater one", () -> x.give(3), 0);

        Roof lop = new Roof();
        lop.row(1, 4, 0, 0);
        lop.row(2, 10, 0, 0);
        lop.row(3, 14, 2, 1);
        lop.row(4, 18, 1, 3);
        lop.row(5, 6, 0, 0);
        lop.row(6, 24, 5, 4);
        lop.build(6);
        due.is("5: the smaller child though it is the left one", () -> lop.give(5), 0);
        due.is("5: the right child if the left one doesn't hold", () -> lop.give(5), 10);
        due.shows("5: lopsided", lop, "0:5=5 6:1 10:2=5 20:1");
        lop.build(6);
        due.is("5: only the greater child holds", () -> lop.give(7), 10);
        due.is("5: it is taken whole if no child holds", () -> lop.give(10), -1);
        lop.build(3);
        due.is("5: the smaller child though it is the right one", () -> lop.give(2), 10);
        lop.build(3);
        due.is("5: no child holds: not split", () -> lop.give(11), 0);
        due.shows("5: not split", lop, "0:3=11");
    }

    private static void giveAlike() {
        Roof x = new Roof();
        x.row(1, 8, 0, 0);
        x.row(2, 8, 3, 3);
        x.row(3, 4, 0, 0);
        x.row(4, 16, 2, 1);
        x.row(5, 16, 1, 2);
        x.row(6, 32, 4, 5);
        x.build(6);
        due.is("5: alike children: the left one", () -> x.give(8), 0);
        due.shows("5: of either class", x, "0:2=8 8:1 16:5");
        x.build(4);
        due.is("5: the left one, down to its leaf", () -> x.give(3), 0);
        x.build(6);
        x.give(5);
        x.give(5);
        x.give(5);
        x.give(5);
        x.freeAll(8, 24);
        due.shows("5: free nodes of two classes that are alike in size", x, "0:2=5 8:1 16:1=5 24:2");
        due.is("5: the lowest address of both classes", () -> x.give(5), 8);
        x.freeAll(0, 8);
        x.build(6);
        x.keep(1, 9);
        x.keep(2, 9);
        x.give(5);
        x.give(5);
        x.freeAll(0, 8);
        due.shows("5: the higher class lies lower", x, "0:2 8:1 16:5");
        due.is("5: and is taken", () -> x.give(5), 0);
    }

    private static void giveJoinsFirst() {
        Roof x = Roof.halves(4, 4);
        x.keepAll(4, 255);
        x.give(4);
        x.give(4);
        x.give(8);
        x.freeAll(0, 4, 8);
        due.shows("5: kept apart", x, "0:1 4:1 8:2 16:3");
        due.is("5: held by what is there: nothing is joined", () -> x.give(16), 16);
        due.is("5: no joins", () -> x.count(7), 0);
        due.is("5: all is joined if none holds", () -> x.give(10), 0);
        due.is("5: two joins", () -> x.count(7), 2);
        due.shows("5: joined, and given", x, "0:3=10 16:3=16");
        x.free(0);
        x.give(3);
        x.free(0);
        due.shows("5: kept apart again", x, "0:1 4:1 8:2 16:3=16");
        due.is("5: none holds even so", () -> x.give(17), -1);
        due.shows("5: all is joined then", x, "0:3 16:3=16");
    }

    private static void frees() {
        Roof x = Roof.halves(3, 4);
        due.noArgument("6: no block at all", () -> x.free(0));
        x.give(4);
        x.give(4);
        x.give(8);
        for (int address : new int[] {-1, 1, 3, 12, 16, 17, Integer.MIN_VALUE, Integer.MAX_VALUE}) {
            due.noArgument("6: no block at " + address, () -> x.free(address));
        }
        due.done("6: a block", () -> x.free(0));
        due.shows("6: its buddy is live", x, "0:1 4:1=4 8:2=8");
        due.noArgument("6: twice", () -> x.free(0));
        due.done("6: a block with no free buddy", () -> x.free(8));
        due.shows("6: its buddy is split", x, "0:1 4:1=4 8:2");
        due.done("6: the last one", () -> x.free(4));
        due.shows("6: joined up to the top", x, "0:3");
        due.is("6: joins", () -> x.count(7), 2);
        due.noArgument("6: a free node is no block", () -> x.free(0));
        x.give(12);
        due.done("6: the top itself", () -> x.free(0));
        due.shows("6: is free", x, "0:3");
    }

    private static void changes() {
        Roof x = Roof.halves(5, 4);
        x.give(5);
        due.is("7: stays", () -> x.change(0, 8), 0);
        due.is("7: with another request", () -> x.block(0, 1), 8);
        due.is("7: stays with fewer words, is not split", () -> x.change(0, 1), 0);
        due.shows("7: in its node", x, "0:2=1 8:2 16:3 32:4");
        due.is("7: the books follow", () -> x.count(1), 1);
        due.is("7: the waste, too", () -> x.count(2), 7);
        due.noArgument("7: no words", () -> x.change(0, 0));
        due.noArgument("7: words below 0", () -> x.change(0, Integer.MIN_VALUE));
        due.noArgument("7: no block", () -> x.change(8, 1));
        due.is("7: given before it is freed", () -> x.change(0, 9), 16);
        due.shows("7: and freed after it", x, "0:3 16:3=9 32:4");
        due.noArgument("7: the old block is gone", () -> x.block(0, 0));
        due.is("7: nothing holds so many while it is there", () -> x.change(16, 64), -1);
        due.shows("7: it stays", x, "0:3 16:3=9 32:4");
        x.keep(3, 1);
        x.give(10);
        x.free(0);
        x.keep(1, 9);
        x.give(3);
        x.free(0);
        due.shows("7: kept apart", x, "0:1 4:1 8:2 16:3=9 32:4");
        due.is("7: none are given", () -> x.change(16, 33), -1);
        due.shows("7: all is joined then", x, "0:3 16:3=9 32:4");
        due.is("7: moves, and what is kept stays apart", () -> x.change(16, 20), 32);
        due.shows("7: freed and joined, as more are free than kept", x, "0:4 32:4=20");
    }

    private static void blocks() {
        Roof x = Roof.halves(5, 4);
        x.give(3);
        x.give(17);
        due.is("8: class", () -> x.block(0, 0), 1);
        due.is("8: request", () -> x.block(0, 1), 3);
        due.is("8: depth", () -> x.block(0, 2), 4);
        due.is("8: class of the other", () -> x.block(32, 0), 4);
        due.is("8: request of the other", () -> x.block(32, 1), 17);
        due.is("8: depth of the other", () -> x.block(32, 2), 1);
        for (int what : new int[] {-1, 3, Integer.MIN_VALUE, Integer.MAX_VALUE}) {
            due.noArgument("8: what " + what, () -> x.block(0, what));
        }
        for (int address : new int[] {4, 8, 33, 64, -1, Integer.MIN_VALUE, Integer.MAX_VALUE}) {
            due.noArgument("8: no block at " + address, () -> x.block(address, 0));
        }
        x.build(5);
        x.give(64);
        due.is("8: the top is at depth 0", () -> x.block(0, 2), 0);
        due.is("8: its class", () -> x.block(0, 0), 5);
    }

    private static void paths() {
        Roof x = new Roof();
        x.family(1, 6, 4, 7);
        x.build(6);
        x.give(5);
        x.give(4);
        x.give(4);
        due.shows("9: neighbours", x, "0:5 29:2=4 36:1=4 40:2=5");
        pathIs(x, 40, 1, 1, -1, -1);
        pathIs(x, 36, 1, 0, 1, -1);
        pathIs(x, 29, 1, 0, 0, -1);
        due.is("9: far below", () -> x.path(36, Integer.MAX_VALUE), -1);
        due.noArgument("9: above the top", () -> x.path(36, -1));
        due.noArgument("9: far above", () -> x.path(36, Integer.MIN_VALUE));
        due.noArgument("9: no block", () -> x.path(0, 0));
        Roof top = Roof.halves(2, 4);
        top.give(8);
        due.is("9: the top's own", () -> top.path(0, 0), -1);
    }

    // All 24 classes lie on one way: the greater child is always the one that holds.
    private static void deepestPaths() {
        for (int side = 0; side <= 1; side++) {
            int taken = side;
            Roof x = Roof.chain(side);
            due.is("4: a chain of 24", () -> x.build(24), 24);
            due.is("15: room in the chain", () -> x.room(1), 24);
            due.is("15: room for 8 words", () -> x.room(8), 1);
            int address = taken == 0 ? 0 : 88;
            due.is("5: down the chain", () -> x.give(8), address);
            due.is("8: 22 deep", () -> x.block(address, 2), 22);
            due.is("14: 22 splits", () -> x.count(8), 22);
            for (int i = 0; i < 22; i++) {
                x.give(4);
            }
            x.free(address);
            int lowest = taken == 0 ? 0 : 88;
            due.is("5: the leaf at its end", () -> x.give(1), lowest);
            due.is("8: 23 deep", () -> x.block(lowest, 2), 23);
            due.is("9: the last side", () -> x.path(lowest, 22), 0);
            due.is("9: the one before", () -> x.path(lowest, 21), taken);
            due.is("9: the first side", () -> x.path(lowest, 0), taken);
            due.is("9: no deeper", () -> x.path(lowest, 23), -1);
            due.is("13: 24 nodes", () -> x.leaf(23, 0), 92);
            due.is("13: no more", () -> x.leaf(24, 0), -1);
            for (int at = 0; at < 96; at += 4) {
                int each = at;
                if (at != 92 || taken == 0) {
                    due.same("6: the chain's " + at, Due.outcome(() -> x.free(each)),
                            at == (taken == 0 ? 4 : -1) ? "throws.IllegalArgumentException" : "done");
                }
            }
            due.shows("6: all is joined up to the top", x, "0:24");
            due.is("14: 23 joins and 23 splits", () -> x.count(7) * 100 + x.count(8), 2323);
        }
    }

    private static void pathIs(Roof x, int address, int... side) {
        for (int i = 0; i < side.length; i++) {
            int depth = i;
            due.is("9: to " + address + " at " + i, () -> x.path(address, depth), side[depth]);
        }
    }

    private static void keeps() {
        Roof x = Roof.halves(4, 4);
        for (int k : new int[] {0, 5, 24, 25, -1, 32, 33, Integer.MIN_VALUE, Integer.MAX_VALUE}) {
            due.noArgument("10: class " + k, () -> x.keep(k, 0));
        }
        for (int many : new int[] {-1, 256, Integer.MIN_VALUE, Integer.MAX_VALUE}) {
            due.noArgument("10: so many as " + many, () -> x.keep(1, many));
        }
        due.done("10: 255", () -> x.keep(4, 255));
        due.done("10: 0", () -> x.keep(4, 0));
        x.keep(1, 2);
        x.give(1);
        x.give(1);
        x.give(1);
        x.freeAll(0, 4);
        due.shows("10: 12 is free, too, so that 4 is one too many", x, "0:2 8:1=1 12:1 16:3");
        x.build(4);
        x.keep(1, 2);
        x.giveTimes(4, 4);
        x.freeAll(0, 4);
        due.shows("10: two are kept", x, "0:1 4:1 8:1=4 12:1=4 16:3");
        x.free(8);
        due.shows("10: a third has no free buddy", x, "0:1 4:1 8:1 12:1=4 16:3");
        x.keep(1, 0);
        due.shows("10: nothing is joined at once", x, "0:1 4:1 8:1 12:1=4 16:3");
        x.free(12);
        due.shows("10: only what is freed is joined, as far as it goes", x, "0:1 4:1 8:2 16:3");
        due.is("10: one join", () -> x.count(7), 1);
        x.build(4);
        x.keep(2, 2);
        x.giveTimes(4, 4);
        x.freeAll(0, 4, 8, 12);
        due.shows("10: the joined ones are kept", x, "0:2 8:2 16:3");
        x.keep(2, 1);
        x.give(8);
        x.free(0);
        due.shows("10: now they are too many", x, "0:4");
    }

    private static void keepsByTheFreedClass() {
        Roof x = new Roof();
        x.row(1, 4, 0, 0);
        x.row(2, 6, 0, 0);
        x.row(3, 10, 1, 2);
        x.build(3);
        x.keep(1, 1);
        x.give(4);
        x.give(6);
        x.freeAll(4, 0);
        due.shows("10: class 1 is freed and kept", x, "0:1 4:2");
        x.give(4);
        x.give(6);
        x.freeAll(0, 4);
        due.shows("10: class 2 is freed and joined with it", x, "0:3");
    }

    private static void joins() {
        Roof x = Roof.halves(4, 4);
        due.is("11: nothing to join", () -> x.join(), 0);
        x.keepAll(4, 255);
        x.giveTimes(8, 4);
        for (int i = 0; i < 8; i++) {
            if (i != 5) {
                x.free(4 * i);
            }
        }
        due.is("11: over and over", () -> x.join(), 4);
        due.shows("11: what is live stays", x, "0:3 16:1 20:1=4 24:2");
        due.is("11: once is enough", () -> x.join(), 0);
        due.is("11: they are counted", () -> x.count(7), 4);
        x.free(20);
        due.is("11: up to the top", () -> x.join(), 3);
        due.shows("11: whole", x, "0:4");
    }

    private static void nodes() {
        Roof x = Roof.halves(4, 4);
        for (int k : new int[] {0, 5, 25, -1, 33, Integer.MIN_VALUE, Integer.MAX_VALUE}) {
            due.noArgument("12: class " + k, () -> x.nodes(k, 0));
        }
        for (int what : new int[] {-1, 3, Integer.MIN_VALUE, Integer.MAX_VALUE}) {
            due.noArgument("12: what " + what, () -> x.nodes(1, what));
        }
        due.is("12: the top alone", () -> x.nodes(4, 0), 1);
        due.is("12: at 0", () -> x.nodes(4, 1), 0);
        due.is("12: no leaves", () -> x.nodes(1, 0), 0);
        due.is("12: no lowest", () -> x.nodes(1, 1), -1);
        due.is("12: no highest", () -> x.nodes(1, 2), -1);
        x.giveTimes(7, 4);
        x.freeAll(4, 12);
        due.is("12: free leaves", () -> x.nodes(1, 0), 3);
        due.is("12: the lowest", () -> x.nodes(1, 1), 4);
        due.is("12: the highest", () -> x.nodes(1, 2), 28);
        due.is("12: none is left of the top", () -> x.nodes(4, 0), 0);
        Roof gap = new Roof();
        gap.row(2, 4, 0, 0);
        gap.row(7, 8, 2, 2);
        gap.build(7);
        due.noArgument("12: a class between that isn't reached", () -> gap.nodes(3, 0));
        due.is("12: one that is", () -> gap.nodes(7, 2), 0);
    }

    private static void leaves() {
        Roof x = Roof.halves(4, 4);
        due.is("13: the top", () -> x.leaf(0, 1), 4);
        due.is("13: is free", () -> x.leaf(0, 2), 0);
        due.is("13: there is no second", () -> x.leaf(1, 0), -1);
        x.give(3);
        x.give(6);
        int[][] want = {{0, 1, 3}, {4, 1, 0}, {8, 2, 6}, {16, 3, 0}, {-1, -1, -1}};
        for (int i = 0; i < want.length; i++) {
            for (int what = 0; what < 3; what++) {
                int at = i;
                int which = what;
                due.is("13: leaf " + i + ", " + what, () -> x.leaf(at, which), want[at][which]);
            }
        }
        for (int odd : new int[] {-1, Integer.MIN_VALUE, Integer.MAX_VALUE}) {
            due.is("13: leaf " + odd, () -> x.leaf(odd, 0), -1);
            due.is("13: what " + odd, () -> x.leaf(0, odd), -1);
        }
        due.is("13: what 3", () -> x.leaf(0, 3), -1);
    }

    private static void counts() {
        Roof x = Roof.halves(4, 4);
        due.counts("14: new", x, "32 0 0 32 0 1 32 0 0 1");
        x.give(3);
        x.give(5);
        due.counts("14: two blocks", x, "32 8 4 20 2 2 16 0 3 2");
        x.give(10);
        x.give(4);
        due.counts("14: full", x, "32 22 10 0 4 0 0 0 3 0");
        x.freeAll(0, 4);
        due.counts("14: freed", x, "32 15 9 8 2 1 8 1 3 1");
        for (int what : new int[] {-1, 10, Integer.MIN_VALUE, Integer.MAX_VALUE}) {
            due.is("14: count " + what, () -> x.count(what), -1);
        }
    }

    private static void countsIfJoined() {
        Roof x = Roof.halves(4, 4);
        x.keepAll(4, 255);
        x.giveTimes(8, 4);
        for (int i = 0; i < 7; i++) {
            x.free(4 * i);
        }
        due.counts("14: kept apart", x, "32 4 0 28 1 7 16 0 7 3");
        due.shows("14: nothing is joined by counting", x, "0:1 4:1 8:1 12:1 16:1 20:1 24:1 28:1=4");
        x.free(28);
        due.counts("14: all free, but apart", x, "32 0 0 32 0 8 32 0 7 1");
    }

    private static void rooms() {
        Roof x = Roof.halves(21, 4);
        due.noArgument("15: no words", () -> x.room(0));
        due.noArgument("15: below 0", () -> x.room(Integer.MIN_VALUE));
        due.is("15: 1 word", () -> x.room(1), 1 << 20);
        due.is("15: 4 words", () -> x.room(4), 1 << 20);
        due.is("15: 5 words", () -> x.room(5), 1 << 19);
        due.is("15: all words", () -> x.room(MOST), 1);
        due.is("15: more words", () -> x.room(MOST + 1), 0);
        due.is("15: the greatest int", () -> x.room(Integer.MAX_VALUE), 0);
        due.is("15: nothing is split", () -> x.count(8), 0);
        for (int words = 1; words <= 97; words++) {
            Roof lop = new Roof();
            lop.family(2, 9, 4, 0);
            lop.build(9);
            int room = lop.room(words);
            due.same("15: weighted, " + words, "" + room, "" + timesGiven(lop, words));
        }
    }

    private static int timesGiven(Roof x, int w) {
        int given = 0;
        while (x.give(w) >= 0) {
            given++;
        }
        return given;
    }

    private static void roomsAfterJoining() {
        Roof x = Roof.halves(4, 4);
        x.keepAll(4, 255);
        x.giveTimes(8, 4);
        for (int i = 0; i < 8; i++) {
            if (i != 7) {
                x.free(4 * i);
            }
        }
        due.is("15: leaves", () -> x.room(4), 7);
        due.is("15: joined pairs", () -> x.room(8), 3);
        due.is("15: joined fours", () -> x.room(9), 1);
        due.is("15: not so great", () -> x.room(17), 0);
        due.is("15: nothing is joined", () -> x.count(7), 0);
        due.shows("15: nothing is changed", x, "0:1 4:1 8:1 12:1 16:1 20:1 24:1 28:1=4");

        // A leaf that holds w is given before it could be joined with its buddy, that doesn't hold them.
        Roof lop = new Roof();
        lop.row(1, 4, 0, 0);
        lop.row(2, 6, 0, 0);
        lop.row(3, 10, 2, 1);
        lop.row(4, 20, 3, 3);
        lop.build(4);
        lop.keepAll(4, 255);
        lop.give(6);
        lop.give(4);
        lop.free(0);
        lop.free(6);
        due.shows("15: lopsided", lop, "0:2 6:1 10:3");
        due.is("15: 5 words", () -> lop.room(5), 2);
        due.is("15: 7 words, once joined", () -> lop.room(7), 2);
        due.is("15: 11 words, once all is joined", () -> lop.room(11), 1);
        due.is("15: 3 words", () -> lop.room(3), 4);
    }

    private static void loads() {
        Roof x = new Roof();
        for (int i : new int[] {-1, 256, Integer.MIN_VALUE, Integer.MAX_VALUE}) {
            due.noArgument("16: entry " + i, () -> x.load(i, 0));
        }
        due.done("16: the first", () -> x.load(0, Integer.MIN_VALUE));
        due.done("16: the last", () -> x.load(255, 4));
        x.load(0, 9);
        x.load(1, 4);
        x.family(0, 4, 4, 0);
        x.build(4);
        due.is("16: they are there without a memory, and stay", () -> x.replay(2), 0);
        due.shows("16: the newest is played", x, "0:3=9 16:1=4 20:1 24:2");
        x.build(4);
        due.is("16: the script outlives the memory", () -> x.replay(1), 0);
        due.shows("16: and is played again", x, "0:3=9 16:3");
    }

    private static void replays() {
        Roof x = Roof.halves(4, 4);
        for (int n : new int[] {-1, 257, Integer.MIN_VALUE, Integer.MAX_VALUE}) {
            due.noArgument("17: n " + n, () -> x.replay(n));
        }
        due.is("17: an empty replay", () -> x.replay(0), 0);
        due.is("17: entries never loaded join", () -> x.replay(256), 0);
        x.keep(1, 255);
        x.keep(2, 255);
        x.loadAll(3, 4, 5, -1, -2, 0, 6);
        due.is("17: up to the frees", () -> x.replay(5), 0);
        due.shows("17: given and freed", x, "0:1 4:1 8:2=5 16:3");
        x.build(4);
        x.keep(1, 255);
        x.keep(2, 255);
        due.is("17: with the join", () -> x.replay(6), 0);
        due.shows("17: joined", x, "0:2 8:2=5 16:3");
        due.is("17: one join", () -> x.count(7), 1);
        x.build(4);
        due.is("17: all", () -> x.replay(7), 0);
        due.shows("17: given again", x, "0:2=6 8:2=5 16:3");
    }

    private static void replayStops() {
        Roof x = Roof.halves(4, 4);
        x.loadAll(4, -1, -1);
        due.is("17: freed twice", () -> x.replay(3), 3);
        due.shows("17: what went before is done", x, "0:4");
        x.loadAll(-1, 4);
        due.is("17: its own entry", () -> x.replay(1), 1);
        x.loadAll(-2, 4);
        due.is("17: an entry further on", () -> x.replay(2), 1);
        due.is("17: nothing is done behind it", () -> x.count(4), 0);
        x.loadAll(0, -1);
        due.is("17: an entry that joins gives nothing", () -> x.replay(2), 2);
        x.loadAll(4, -1, -2);
        due.is("17: an entry that frees gives nothing", () -> x.replay(3), 3);
        for (int v : new int[] {-256, -257, -300, Integer.MIN_VALUE}) {
            x.loadAll(v);
            due.is("17: no such entry " + v, () -> x.replay(1), 1);
        }
        x.loadAll(4, 8);
        due.is("17: a replay of two", () -> x.replay(2), 0);
        x.loadAll(0, 0, -1);
        due.is("17: blocks of an earlier replay aren't its own", () -> x.replay(3), 3);
        x.loadAll(4, -1, 4, -1);
        x.build(4);
        due.is("17: freed, though another has its place", () -> x.replay(4), 4);
        due.is("17: that one stays", () -> x.count(4), 1);
        x.loadAll(4, 4, 33, 4);
        x.build(4);
        x.keep(1, 255);
        x.give(4);
        x.free(0);
        due.is("17: no words are given", () -> x.replay(4), 3);
        due.shows("17: it stops there", x, "0:1=4 4:1=4 8:2 16:3");
        x.loadAll(33);
        x.freeAll(0, 4);
        due.shows("17: kept apart", x, "0:1 4:1 8:2 16:3");
        due.is("17: no words are given at all", () -> x.replay(1), 1);
        due.shows("17: all is joined then", x, "0:4");
    }

    private static void replayFull() {
        Roof x = Roof.halves(10, 4);
        for (int i = 0; i < 256; i++) {
            x.load(i, 1);
        }
        x.give(1);
        due.is("17: there are 256 blocks", () -> x.replay(256), 256);
        due.is("17: all are given", () -> x.count(4), 256);
        x.freeAll(0, 4);
        due.is("17: two have room again", () -> x.replay(3), 3);

        Roof apart = Roof.halves(12, 4);
        for (int i = 0; i < 256; i++) {
            apart.load(i, 9);
        }
        apart.keep(2, 255);
        apart.give(8);
        apart.give(8);
        apart.free(0);
        apart.free(8);
        due.is("17: 256 gives", () -> apart.replay(256), 0);
        due.is("17: at 256 blocks the first entry can't be done", () -> apart.replay(256), 1);
        due.is("17: and nothing is joined", () -> apart.nodes(2, 0), 2);
        due.noState("5: no words at 256 blocks", () -> apart.give(9));
        due.is("5: nor is anything joined", () -> apart.nodes(2, 0), 2);
        apart.load(0, 0);
        due.is("17: joining can be done, giving can't", () -> apart.replay(256), 2);
        due.is("17: it is joined then", () -> apart.nodes(3, 1), 0);
    }
}
