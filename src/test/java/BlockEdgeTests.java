/** Promises 5 to 9, give, free, change, block and path: each boundary case that they name. */
public final class BlockEdgeTests {
    private static final int MOST = Roof.MOST_WORDS;
    private static final int LEAST = Roof.LEAST;
    private static final int GREATEST = Roof.GREATEST;
    private static final Due due = new Due("BlockEdgeTests");

    public static void main(String[] args) {
        givesOneWordAtLeast();
        givesAllWordsAtMost();
        givesNothingWhereNothingIsFree();
        givesNothingAndJoinsAll();
        givesAtAnyAddress();
        givesThe256thButNoMore();
        freesWhereABlockBegins();
        freesABlockOnce();
        freesTheFirstAndTheLast();
        changeStaysUpToItsSize();
        changeMovesFromThereOn();
        changeGivesBeforeItFrees();
        changeFreesAsFreeDoes();
        changeJoinsFirstWhereNoneHolds();
        changeThatGivesNothingJoinsAll();
        changeWhereNothingIsFree();
        changeWantsABlock();
        changeWantsOneWordAtLeast();
        changeWith256Blocks();
        changeWith255Blocks();
        blockTellsThreeThings();
        blockWantsABlock();
        blockDepths();
        pathOfTheTop();
        pathDepths();
        pathWantsADepth();
        pathWantsABlock();
        due.close();
    }

    private static void givesOneWordAtLeast() {
        Roof x = Roof.halves(3, 4);
        for (int w : new int[] {LEAST, -4, -1, 0}) {
            due.noArgument("5: " + w + " words", () -> x.give(w));
        }
        due.shows("5: nothing is given", x, "0:3");
        due.counts("5: nothing is split", x, "16 0 0 16 0 1 16 0 0 1");
        due.is("5: 1 word", () -> x.give(1), 0);
        due.is("5: is the request", () -> x.block(0, 1), 1);
    }

    private static void givesAllWordsAtMost() {
        Roof x = Roof.halves(21, 4);
        for (int w : new int[] {MOST + 1, MOST * 2, 1 << 30, GREATEST}) {
            due.is("5: " + w + " words", () -> x.give(w), -1);
        }
        due.shows("5: nothing is given", x, "0:21");
        due.is("5: all words", () -> x.give(MOST), 0);
        due.counts("5: are one block", x, MOST + " " + MOST + " 0 0 1 0 0 0 0 0");
    }

    private static void givesNothingWhereNothingIsFree() {
        Roof x = Roof.halves(2, 4);
        x.giveTimes(2, 4);
        for (int w : new int[] {1, 4, 5, 8, GREATEST}) {
            due.is("5: " + w + " words of a full memory", () -> x.give(w), -1);
        }
        due.shows("5: it stays full", x, "0:1=4 4:1=4");
        due.counts("5: nothing is joined", x, "8 8 0 0 2 0 0 0 1 0");
        Roof one = Roof.halves(1, 4);
        one.give(1);
        due.is("5: what a block wastes isn't given", () -> one.give(1), -1);
    }

    /** The first 16 of 32 words are free in three nodes that are kept apart, the others are a block. */
    private static Roof keptApart() {
        Roof x = Roof.halves(4, 4);
        x.keepAll(4, 255);
        x.give(4);
        x.give(9);
        x.free(0);
        return x;
    }

    private static void givesNothingAndJoinsAll() {
        Roof x = keptApart();
        due.shows("5: kept apart", x, "0:1 4:1 8:2 16:3=9");
        due.is("5: 17 words", () -> x.give(17), -1);
        due.shows("5: all is joined then", x, "0:3 16:3=9");
        due.is("5: two joins", () -> x.count(7), 2);
        due.is("5: no block more", () -> x.count(4), 1);
        Roof y = keptApart();
        due.is("5: 16 words are given once all is joined", () -> y.give(16), 0);
        Roof z = keptApart();
        due.is("5: the greatest int of words", () -> z.give(GREATEST), -1);
        due.shows("5: joins all, too", z, "0:3 16:3=9");
    }

    private static void givesAtAnyAddress() {
        Roof x = new Roof();
        x.row(1, 4, 0, 0);
        x.row(2, MOST - 4, 0, 0);
        x.row(3, MOST, 2, 1);
        x.build(3);
        due.is("5: the highest address", () -> x.give(4), MOST - 4);
        due.is("5: the lowest address", () -> x.give(4), 0);
        due.is("5: of the greater one", () -> x.block(0, 0), 2);
    }

    /** 256 blocks of class 2 in 16384 words, request 5 each, made by 64 entries of the script. */
    private static Roof full() {
        Roof x = Roof.halves(13, 4);
        x.giveByScript(64, 4, 5);
        return x;
    }

    private static void givesThe256thButNoMore() {
        Roof x = full();
        due.is("5: 256 blocks", () -> x.count(4), 256);
        due.noState("5: no 257th of 1 word", () -> x.give(1));
        due.noState("5: nor of too many words", () -> x.give(GREATEST));
        due.noState("5: nor of none", () -> x.give(0));
        due.is("5: 256 blocks still", () -> x.count(4), 256);
        x.free(2040);
        due.noArgument("5: of none, with 255 blocks", () -> x.give(0));
        due.is("5: of too many, with 255 blocks", () -> x.give(GREATEST), -1);
        due.is("5: the 256th", () -> x.give(8), 2040);
        due.noState("5: and no other", () -> x.give(8));
        due.counts("5: the books", x, "16384 1283 765 14336 256 3 8192 0 258 3");
    }

    private static void freesWhereABlockBegins() {
        Roof x = Roof.halves(4, 4);
        x.give(4);
        x.give(6);
        for (int address : new int[] {LEAST, -8, -1, 1, 3, 4, 7, 9, 12, 15, 16, 31, 32, 33, GREATEST}) {
            due.noArgument("6: no block begins at " + address, () -> x.free(address));
        }
        due.shows("6: nothing is freed", x, "0:1=4 4:1 8:2=6 16:3");
        due.done("6: one begins at 8", () -> x.free(8));
        due.shows("6: it is free", x, "0:1=4 4:1 8:2 16:3");
        due.done("6: one begins at 0", () -> x.free(0));
        due.shows("6: all is", x, "0:4");
        due.noArgument("6: none is left", () -> x.free(0));
    }

    private static void freesABlockOnce() {
        Roof x = Roof.halves(4, 4);
        x.keepAll(4, 255);
        x.give(4);
        due.done("6: a block", () -> x.free(0));
        due.noArgument("6: a free node", () -> x.free(0));
        due.is("6: it is counted once", () -> x.nodes(1, 0), 2);
        due.is("6: given again", () -> x.give(4), 0);
        due.done("6: it can be freed again", () -> x.free(0));
        due.counts("6: the books", x, "32 0 0 32 0 4 32 0 3 1");
    }

    private static void freesTheFirstAndTheLast() {
        Roof x = Roof.halves(3, 4);
        x.giveTimes(4, 4);
        due.done("6: the last", () -> x.free(12));
        due.done("6: the first", () -> x.free(0));
        due.shows("6: they are no buddies", x, "0:1 4:1=4 8:1=4 12:1");
        Roof top = Roof.halves(3, 4);
        top.give(16);
        due.done("6: the only one", () -> top.free(0));
        due.shows("6: is the top", top, "0:3");
    }

    private static void changeStaysUpToItsSize() {
        Roof x = Roof.halves(5, 4);
        x.give(6);
        for (int w : new int[] {1, 4, 5, 7, 8}) {
            due.is("7: stays with " + w, () -> x.change(0, w), 0);
            due.is("7: its request", () -> x.block(0, 1), w);
            due.is("7: in all requests", () -> x.count(1), w);
            due.is("7: its waste", () -> x.count(2), 8 - w);
        }
        due.shows("7: its node isn't split", x, "0:2=8 8:2 16:3 32:4");
        due.is("7: no splits", () -> x.count(8), 3);
        Roof top = Roof.halves(21, 4);
        top.give(MOST);
        due.is("7: the top stays with 1 word", () -> top.change(0, 1), 0);
        due.is("7: and with all", () -> top.change(0, MOST), 0);
        due.shows("7: whole", top, "0:21=" + MOST);
    }

    private static void changeMovesFromThereOn() {
        Roof x = Roof.halves(5, 4);
        x.give(6);
        due.is("7: one word more than its size", () -> x.change(0, 9), 16);
        due.shows("7: it is freed, and joined", x, "0:3 16:3=9 32:4");
        due.noArgument("7: no block is left there", () -> x.block(0, 0));
        due.is("7: still one block", () -> x.count(4), 1);
        due.is("7: of that request", () -> x.count(1), 9);
    }

    private static void changeGivesBeforeItFrees() {
        Roof x = Roof.halves(3, 4);
        x.give(4);
        due.is("7: its own words don't count", () -> x.change(0, 9), -1);
        due.is("7: those beside it do", () -> x.change(0, 8), 8);
        due.shows("7: and are given first", x, "0:2 8:2=8");
    }

    private static void changeFreesAsFreeDoes() {
        Roof x = Roof.halves(4, 4);
        x.keep(1, 2);
        x.give(4);
        due.is("7: moves", () -> x.change(0, 5), 8);
        due.shows("7: two are kept apart", x, "0:1 4:1 8:2=5 16:3");
        due.is("7: moves on", () -> x.change(8, 9), 16);
        due.shows("7: its buddy is split", x, "0:1 4:1 8:2 16:3=9");
        due.is("7: no joins", () -> x.count(7), 0);
    }

    private static void changeJoinsFirstWhereNoneHolds() {
        Roof x = keptApart();
        x.give(1);
        due.shows("7: two blocks", x, "0:1=1 4:1 8:2 16:3=9");
        due.is("7: held by one: nothing is joined", () -> x.change(0, 5), 8);
        due.shows("7: it is kept apart", x, "0:1 4:1 8:2=5 16:3=9");
        due.is("7: no joins", () -> x.count(7), 0);
        Roof y = Roof.halves(4, 4);
        y.keepAll(4, 255);
        y.giveTimes(4, 4);
        y.give(16);
        y.freeAll(0, 4, 8);
        due.shows("7: none holds 8", y, "0:1 4:1 8:1 12:1=4 16:3=16");
        due.is("7: all is joined first", () -> y.change(12, 8), 0);
        due.shows("7: then it is freed, and kept apart", y, "0:2=8 8:1 12:1 16:3=16");
        due.is("7: one join", () -> y.count(7), 1);
    }

    private static void changeThatGivesNothingJoinsAll() {
        Roof x = keptApart();
        due.is("7: 17 words", () -> x.change(16, 17), -1);
        due.shows("7: all is joined, the block stays as it is", x, "0:3 16:3=9");
        due.is("7: two joins", () -> x.count(7), 2);
        Roof y = keptApart();
        due.is("7: the greatest int of words", () -> y.change(16, GREATEST), -1);
        due.shows("7: joins all, too", y, "0:3 16:3=9");
        due.is("7: its request stays", () -> y.block(16, 1), 9);
        Roof z = keptApart();
        due.is("7: stays with what it holds", () -> z.change(16, 16), 16);
        due.shows("7: and nothing is joined", z, "0:1 4:1 8:2 16:3=16");
    }

    private static void changeWhereNothingIsFree() {
        Roof x = Roof.halves(2, 4);
        x.giveTimes(2, 3);
        due.is("7: none is free", () -> x.change(4, 5), -1);
        due.shows("7: both stay", x, "0:1=3 4:1=3");
        due.is("7: what it holds it can have", () -> x.change(4, 4), 4);
        due.shows("7: both stay still", x, "0:1=3 4:1=4");
    }

    private static void changeWantsABlock() {
        Roof x = Roof.halves(4, 4);
        x.give(4);
        x.give(6);
        for (int address : new int[] {LEAST, -1, 1, 4, 12, 16, 32, GREATEST}) {
            due.noArgument("7: no block at " + address, () -> x.change(address, 1));
            due.noArgument("7: nor for more at " + address, () -> x.change(address, 9));
            due.noArgument("7: nor for none at " + address, () -> x.change(address, 0));
        }
        due.shows("7: nothing is changed", x, "0:1=4 4:1 8:2=6 16:3");
        due.counts("7: nor are the books", x, "32 10 2 20 2 2 16 0 3 2");
    }

    private static void changeWantsOneWordAtLeast() {
        Roof x = Roof.halves(4, 4);
        x.give(4);
        for (int w : new int[] {LEAST, -1, 0}) {
            due.noArgument("7: " + w + " words", () -> x.change(0, w));
        }
        due.is("7: the request stays", () -> x.block(0, 1), 4);
        due.is("7: 1 word", () -> x.change(0, 1), 0);
        due.is("7: is the request", () -> x.block(0, 1), 1);
    }

    private static void changeWith256Blocks() {
        Roof x = full();
        due.is("7: stays with 256 blocks", () -> x.change(2040, 8), 2040);
        due.is("7: its request", () -> x.block(2040, 1), 8);
        due.noState("7: can't move with 256 blocks", () -> x.change(2040, 9));
        due.noState("7: also not where none would hold it", () -> x.change(2040, GREATEST));
        due.noArgument("7: no words", () -> x.change(2040, 0));
        due.noArgument("7: the least int of words", () -> x.change(2040, LEAST));
        due.noArgument("7: no block", () -> x.change(2048, 9));
        due.noArgument("7: no block, no words", () -> x.change(2048, 0));
        due.is("7: its request stays", () -> x.block(2040, 1), 8);
        due.is("7: 256 blocks still", () -> x.count(4), 256);
    }

    private static void changeWith255Blocks() {
        Roof x = full();
        x.free(0);
        due.is("7: moves with 255 blocks", () -> x.change(2040, 9), 2048);
        due.is("7: 255 blocks still", () -> x.count(4), 255);
        due.is("7: once more", () -> x.change(8, 9), 2064);
        due.is("7: the 256th", () -> x.give(16), 0);
        due.noState("7: then no more", () -> x.change(16, 9));
    }

    private static void blockTellsThreeThings() {
        Roof x = Roof.halves(4, 4);
        x.give(7);
        int[] want = {2, 7, 2};
        for (int what = 0; what <= 2; what++) {
            int each = what;
            due.is("8: what " + what, () -> x.block(0, each), want[each]);
        }
        for (int what : new int[] {LEAST, -1, 3, 4, GREATEST}) {
            due.noArgument("8: what " + what, () -> x.block(0, what));
        }
    }

    private static void blockWantsABlock() {
        Roof x = Roof.halves(4, 4);
        due.noArgument("8: no block at all", () -> x.block(0, 0));
        x.give(4);
        x.give(6);
        for (int address : new int[] {LEAST, -1, 1, 4, 9, 12, 16, 31, 32, GREATEST}) {
            for (int what = 0; what <= 3; what++) {
                int each = what;
                due.noArgument("8: no block at " + address + ", what " + what, () -> x.block(address, each));
            }
        }
        due.is("8: one at 8", () -> x.block(8, 1), 6);
        x.free(8);
        due.noArgument("8: no more", () -> x.block(8, 1));
    }

    private static void blockDepths() {
        Roof x = Roof.chain(0);
        due.is("8: one word less than all", () -> x.give(93), 0);
        due.is("8: the top lies at depth 0", () -> x.block(0, 2), 0);
        x.free(0);
        for (int k = 23; k >= 2; k--) {
            int each = k;
            x.give(4 * k);
            due.is("8: class " + k + " lies deeper", () -> x.block(0, 2), 24 - each);
            x.free(0);
        }
        Roof y = Roof.chain(0);
        y.give(8);
        y.giveTimes(22, 4);
        y.free(0);
        due.is("8: the deepest of all", () -> y.give(4), 0);
        due.is("8: lies at depth 23", () -> y.block(0, 2), 23);
    }

    private static void pathOfTheTop() {
        Roof x = Roof.halves(3, 4);
        x.give(16);
        for (int i : new int[] {0, 1, 23, GREATEST}) {
            due.is("9: the top's path at " + i, () -> x.path(0, i), -1);
        }
        for (int i : new int[] {LEAST, -1}) {
            due.noArgument("9: the top's path at " + i, () -> x.path(0, i));
        }
    }

    private static void pathDepths() {
        for (int side = 0; side <= 1; side++) {
            int taken = side;
            Roof x = Roof.chain(side);
            int address = side == 0 ? 0 : 88;
            x.give(8);
            for (int i = 0; i < 22; i++) {
                int depth = i;
                due.is("9: the chain's side at " + i, () -> x.path(address, depth), taken);
            }
            for (int i : new int[] {22, 23, 24, 25, GREATEST}) {
                due.is("9: the chain's path at " + i, () -> x.path(address, i), -1);
            }
        }
        Roof x = Roof.halves(4, 4);
        x.giveTimes(8, 4);
        for (int i = 0; i < 8; i++) {
            int address = 4 * i;
            for (int depth = 0; depth < 3; depth++) {
                int at = depth;
                due.is("9: to " + address + " at " + at, () -> x.path(address, at), address / 4 >> 2 - at & 1);
            }
            due.is("9: to " + address + " no deeper", () -> x.path(address, 3), -1);
        }
    }

    private static void pathWantsADepth() {
        Roof x = Roof.halves(3, 4);
        x.give(1);
        for (int i : new int[] {LEAST, -2, -1}) {
            due.noArgument("9: at " + i, () -> x.path(0, i));
        }
        due.is("9: at 0", () -> x.path(0, 0), 0);
    }

    private static void pathWantsABlock() {
        Roof x = Roof.halves(3, 4);
        due.noArgument("9: no block at all", () -> x.path(0, 0));
        x.give(1);
        for (int address : new int[] {LEAST, -1, 1, 4, 8, 16, GREATEST}) {
            due.noArgument("9: no block at " + address, () -> x.path(address, 0));
            due.noArgument("9: nor far below it", () -> x.path(address, GREATEST));
        }
        x.free(0);
        due.noArgument("9: no more", () -> x.path(0, 0));
    }
}
