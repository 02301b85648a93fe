/** Promises 16 and 17, load and replay: each boundary case that they name. */
public final class ScriptEdgeTests {
    private static final int LEAST = Roof.LEAST;
    private static final int GREATEST = Roof.GREATEST;
    private static final Due due = new Due("ScriptEdgeTests");

    public static void main(String[] args) {
        entriesAre0To255();
        anEntryTakesAnyInt();
        anEntryIsLoadedAnew();
        loadsWithoutAMemory();
        replaysNoEntry();
        replays0To256Entries();
        replaysNoFurtherThanN();
        givesWordsFrom1On();
        joinsAllAt0();
        freesFromMinus1On();
        theLastEntryIsFreed();
        stopsWhereNoWordsAreGiven();
        stopsAt256Blocks();
        freesAt256Blocks();
        stopsAtAnEntryThatGaveNone();
        stopsAtAnEntryThatIsNone();
        stopsAtABlockThatWasFreed();
        blocksOfAnotherReplay();
        blocksOfAnotherMemory();
        freesAsFreeDoes();
        whatWentBeforeStays();
        due.close();
    }

    private static void entriesAre0To255() {
        Roof x = Roof.halves(4, 4);
        x.load(0, 5);
        x.load(255, 6);
        for (int i : new int[] {LEAST, -256, -1, 256, 257, GREATEST}) {
            due.noArgument("16: entry " + i, () -> x.load(i, 9));
        }
        due.is("17: all entries", () -> x.replay(256), 0);
        due.shows("16: the first and the last are as they were loaded", x, "0:2=5 8:2=6 16:3");
    }

    private static void anEntryTakesAnyInt() {
        Roof x = Roof.halves(4, 4);
        for (int v : new int[] {LEAST, LEAST + 1, -257, -256, -1, 33, GREATEST}) {
            due.done("16: entry 0 takes " + v, () -> x.load(0, v));
            due.is("17: but can't be done", () -> x.replay(1), 1);
        }
        for (int v : new int[] {0, 1, 32}) {
            due.done("16: entry 0 takes " + v, () -> x.load(0, v));
            x.build(4);
            due.is("17: and is done", () -> x.replay(1), 0);
        }
    }

    private static void anEntryIsLoadedAnew() {
        Roof x = Roof.halves(4, 4);
        x.load(0, 33);
        x.load(1, 33);
        x.load(0, 5);
        x.load(1, -1);
        due.is("16: what was loaded last is played", () -> x.replay(2), 0);
        due.shows("16: given and freed", x, "0:4");
        due.is("16: it is played again", () -> x.replay(1), 0);
        due.shows("16: given", x, "0:2=5 8:2 16:3");
    }

    private static void loadsWithoutAMemory() {
        Roof x = new Roof();
        due.done("16: without a memory", () -> x.load(0, 7));
        due.noArgument("16: no such entry without a memory", () -> x.load(256, 7));
        due.noState("17: it isn't played without one", () -> x.replay(1));
        x.family(0, 4, 4, 0);
        x.build(4);
        due.is("17: it is with one", () -> x.replay(1), 0);
        due.shows("17: that was built later", x, "0:2=7 8:2 16:3");
    }

    private static void replaysNoEntry() {
        Roof x = Roof.halves(4, 4);
        x.keepAll(4, 255);
        x.give(1);
        x.free(0);
        x.load(0, 33);
        due.is("17: no entry", () -> x.replay(0), 0);
        due.shows("17: nothing is done", x, "0:1 4:1 8:2 16:3");
    }

    private static void replays0To256Entries() {
        Roof x = Roof.halves(4, 4);
        x.load(0, 4);
        for (int n : new int[] {LEAST, -1, 257, 258, GREATEST}) {
            due.noArgument("17: n " + n, () -> x.replay(n));
        }
        due.shows("17: nothing is done", x, "0:4");
        due.is("17: n 1", () -> x.replay(1), 0);
        due.is("17: is one block", () -> x.count(4), 1);
        due.is("17: n 256", () -> x.replay(256), 0);
        due.is("17: is one more", () -> x.count(4), 2);
        x.load(255, GREATEST);
        due.is("17: n 255 stops before the last", () -> x.replay(255), 0);
        due.is("17: n 256 stops at it", () -> x.replay(256), 256);
    }

    private static void replaysNoFurtherThanN() {
        Roof x = Roof.halves(4, 4);
        x.loadAll(4, 4, 33);
        due.is("17: two of three", () -> x.replay(2), 0);
        due.is("17: two blocks", () -> x.count(4), 2);
        due.is("17: three of three", () -> x.replay(3), 3);
        due.is("17: four blocks", () -> x.count(4), 4);
    }

    private static void givesWordsFrom1On() {
        Roof x = Roof.halves(4, 4);
        x.loadAll(1, 4, 5, 16);
        due.is("17: all are given", () -> x.replay(4), 0);
        due.shows("17: as give gives them", x, "0:1=1 4:1=4 8:2=5 16:3=16");
        due.counts("17: the books", x, "32 26 6 0 4 0 0 0 3 0");
    }

    private static void joinsAllAt0() {
        Roof x = Roof.halves(4, 4);
        x.keepAll(4, 255);
        x.give(1);
        x.free(0);
        x.load(0, 0);
        due.is("17: a join", () -> x.replay(1), 0);
        due.shows("17: of all", x, "0:4");
        due.is("17: three joins", () -> x.count(7), 3);
        due.is("17: a join of nothing can be done, too", () -> x.replay(1), 0);
        due.is("17: and isn't counted", () -> x.count(7), 3);
    }

    private static void freesFromMinus1On() {
        Roof x = Roof.halves(4, 4);
        x.loadAll(5, 6, 7, -1);
        due.is("17: -1 frees entry 0", () -> x.replay(4), 0);
        due.shows("17: the first", x, "0:2 8:2=6 16:2=7 24:2");
        x.build(4);
        x.load(3, -2);
        due.is("17: -2 frees entry 1", () -> x.replay(4), 0);
        due.shows("17: the second", x, "0:2=5 8:2 16:2=7 24:2");
        x.build(4);
        x.load(3, -3);
        due.is("17: -3 frees entry 2", () -> x.replay(4), 0);
        due.shows("17: the third", x, "0:2=5 8:2=6 16:3");
    }

    private static void theLastEntryIsFreed() {
        Roof x = Roof.halves(4, 4);
        x.load(254, 5);
        x.load(255, -255);
        due.is("17: -255 frees entry 254", () -> x.replay(256), 0);
        due.shows("17: none is left", x, "0:4");
        x.load(255, -256);
        due.is("17: the last can't free itself", () -> x.replay(256), 256);
        due.is("17: one is left", () -> x.count(4), 1);
    }

    private static void stopsWhereNoWordsAreGiven() {
        Roof x = Roof.halves(4, 4);
        x.keepAll(4, 255);
        x.loadAll(16, 4, -2, 17, 4);
        due.is("17: no 17 words", () -> x.replay(5), 4);
        due.shows("17: all is joined then, and no more is given", x, "0:3=16 16:3");
        due.is("17: two joins", () -> x.count(7), 2);
        Roof full = Roof.halves(2, 4);
        full.loadAll(4, 4, 4);
        due.is("17: no free node", () -> full.replay(3), 3);
        due.shows("17: two are given", full, "0:1=4 4:1=4");
    }

    /** 255 blocks of 16 words behind two free nodes of class 2 that are kept apart. */
    private static Roof almostFull() {
        Roof x = Roof.halves(12, 4);
        x.keep(2, 255);
        x.giveTimes(2, 8);
        x.freeAll(0, 8);
        x.giveByScript(51, 5, 9);
        return x;
    }

    private static void stopsAt256Blocks() {
        Roof x = almostFull();
        due.is("17: 255 blocks", () -> x.count(4), 255);
        x.loadAll(10, 10);
        due.is("17: the 256th is given, no other", () -> x.replay(2), 2);
        due.is("17: 256 blocks", () -> x.count(4), 256);
        due.is("17: the first can't be done", () -> x.replay(2), 1);
        x.load(0, GREATEST);
        due.is("17: nor can one of too many words", () -> x.replay(1), 1);
        due.is("17: nothing is joined at 256 blocks", () -> x.nodes(2, 0), 2);
        x.loadAll(0, 4);
        due.is("17: joining can be done", () -> x.replay(2), 2);
        due.is("17: it is joined", () -> x.nodes(2, 0), 0);
        due.is("17: no entry can be done", () -> x.replay(0), 0);
        due.is("17: 256 blocks still", () -> x.count(4), 256);
    }

    private static void freesAt256Blocks() {
        Roof x = almostFull();
        x.loadAll(3, -1, 3, 3);
        due.is("17: given, freed, given, and there are 256", () -> x.replay(4), 4);
        due.is("17: 256 blocks", () -> x.count(4), 256);
        x.free(0);
        x.loadAll(3, -1, 4, -3);
        due.is("17: given and freed twice", () -> x.replay(4), 0);
        due.is("17: 255 blocks", () -> x.count(4), 255);
    }

    private static void stopsAtAnEntryThatGaveNone() {
        Roof x = Roof.halves(4, 4);
        x.loadAll(-1);
        due.is("17: itself", () -> x.replay(1), 1);
        x.loadAll(-2, 4);
        due.is("17: the one behind it", () -> x.replay(2), 1);
        x.loadAll(0, -1);
        due.is("17: one that joins", () -> x.replay(2), 2);
        x.loadAll(4, -1, -2);
        due.is("17: one that frees", () -> x.replay(3), 3);
        x.loadAll(-256);
        due.is("17: the last of all", () -> x.replay(256), 1);
        due.shows("17: nothing is left", x, "0:4");
    }

    private static void stopsAtAnEntryThatIsNone() {
        for (int v : new int[] {-257, -258, -512, -513, LEAST + 1, LEAST}) {
            Roof x = Roof.halves(4, 4);
            x.loadAll(5, v, 5);
            due.is("17: no entry " + v, () -> x.replay(3), 2);
            due.shows("17: nothing is freed", x, "0:2=5 8:2 16:3");
        }
    }

    private static void stopsAtABlockThatWasFreed() {
        Roof x = Roof.halves(4, 4);
        x.loadAll(4, -1, -1);
        due.is("17: freed twice", () -> x.replay(3), 3);
        due.shows("17: it is freed once", x, "0:4");
        x.loadAll(4, -1, 4, -1);
        due.is("17: though another lies there now", () -> x.replay(4), 4);
        due.shows("17: which stays", x, "0:1=4 4:1 8:2 16:3");
        x.build(4);
        x.loadAll(4, -1, 4, -3);
        due.is("17: that is freed by its own entry", () -> x.replay(4), 0);
        due.shows("17: none is left", x, "0:4");
    }

    private static void blocksOfAnotherReplay() {
        Roof x = Roof.halves(4, 4);
        x.loadAll(4, 4);
        due.is("17: a replay", () -> x.replay(2), 0);
        x.loadAll(0, -1);
        due.is("17: its blocks aren't the next one's", () -> x.replay(2), 2);
        x.loadAll(-1);
        due.is("17: nor at once", () -> x.replay(1), 1);
        due.is("17: they stay", () -> x.count(4), 2);
        x.loadAll(4, -1, 0);
        due.is("17: each has its own", () -> x.replay(3), 0);
        due.shows("17: those of before stay", x, "0:1=4 4:1=4 8:2 16:3");
        x.loadAll(4, 33);
        due.is("17: one that stops", () -> x.replay(2), 2);
        x.loadAll(0, -1);
        due.is("17: leaves none to the next", () -> x.replay(2), 2);
    }

    private static void blocksOfAnotherMemory() {
        Roof x = Roof.halves(4, 4);
        x.loadAll(4, 4);
        x.replay(2);
        x.build(3);
        due.is("17: the script outlives the memory", () -> x.replay(2), 0);
        due.shows("17: and is played in the new one", x, "0:1=4 4:1=4 8:2");
        x.free(0);
        due.is("17: blocks of a replay can be freed by free", () -> x.count(4), 1);
    }

    private static void freesAsFreeDoes() {
        Roof x = Roof.halves(4, 4);
        x.keep(1, 2);
        x.loadAll(4, 4, 4, 4, -1, -2, -3, -4);
        due.is("17: two are freed", () -> x.replay(6), 0);
        due.shows("17: and kept apart", x, "0:1 4:1 8:1=4 12:1=4 16:3");
        x.build(4);
        x.keep(1, 2);
        due.is("17: four are freed", () -> x.replay(8), 0);
        due.shows("17: the last is one more than is kept", x, "0:1 4:1 8:2 16:3");
        x.build(4);
        due.is("17: nothing is kept", () -> x.replay(8), 0);
        due.shows("17: all is joined", x, "0:4");
    }

    private static void whatWentBeforeStays() {
        Roof x = Roof.halves(4, 4);
        x.keepAll(4, 255);
        x.loadAll(4, 9, -1, 0, 33, -2);
        due.is("17: it stops at the fifth", () -> x.replay(6), 5);
        due.shows("17: what went before is done", x, "0:3 16:3=9");
        due.counts("17: and in the books", x, "32 9 7 16 1 1 16 2 3 1");
    }
}
