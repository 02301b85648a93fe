/** Promises 10 to 15, keep, join, nodes, leaf, count and room: each boundary case that they name. */
public final class BookEdgeTests {
    private static final int MOST = Roof.MOST_WORDS;
    private static final int LEAST = Roof.LEAST;
    private static final int GREATEST = Roof.GREATEST;
    private static final int[] ODD = {LEAST, -1, 24, 25, 31, 32, 33, GREATEST};
    private static final Due due = new Due("BookEdgeTests");

    public static void main(String[] args) {
        keepWantsAReachedClass();
        keepWants0To255();
        keepJoinsNothingNow();
        keepOfEachClassIsItsOwn();
        joinsNothing();
        joinsAllOverAndOver();
        joinsWhatIsKept();
        nodesWantAReachedClass();
        nodesTellThreeThings();
        nodesWithoutAny();
        nodesOfOneAndOfMany();
        nodesOfUnlikeBuddies();
        nodesOfAll24Classes();
        leavesFrom0On();
        leafTellsThreeThings();
        leafOfAFullMemory();
        countsTenThings();
        countsOfAFullMemory();
        countsIfAllWasJoined();
        countsJoinsAndSplitsSinceTheBuild();
        countsOfTheGreatestMemory();
        roomWantsOneWordAtLeast();
        roomOfNothing();
        roomBeyond256();
        roomChangesNothing();
        roomOnceAllIsJoined();
        roomAsItIsGiven();
        roomOfAll24Classes();
        due.close();
    }

    /** Classes 2 and 23 are reached; 3 and 24 are told, too. */
    private static Roof gaps() {
        Roof x = new Roof();
        x.row(2, 4, 0, 0);
        x.row(3, 4, 0, 0);
        x.row(23, 8, 2, 2);
        x.row(24, 12, 23, 2);
        x.build(23);
        return x;
    }

    private static void keepWantsAReachedClass() {
        Roof x = gaps();
        for (int k : ODD) {
            due.noArgument("10: class " + k, () -> x.keep(k, 1));
        }
        for (int k : new int[] {0, 1, 3, 22, 24}) {
            due.noArgument("10: class " + k + " isn't reached", () -> x.keep(k, 1));
            due.noArgument("10: nor with another number, " + k, () -> x.keep(k, 256));
        }
        due.done("10: class 2", () -> x.keep(2, 1));
        due.done("10: class 23", () -> x.keep(23, 1));
        x.build(24);
        due.done("10: class 24 once it is reached", () -> x.keep(24, 1));
    }

    private static void keepWants0To255() {
        Roof x = Roof.halves(2, 4);
        x.keep(1, 2);
        for (int many : new int[] {LEAST, -1, 256, 257, GREATEST}) {
            due.noArgument("10: so many as " + many, () -> x.keep(1, many));
        }
        x.give(4);
        x.free(0);
        due.shows("10: two are still kept", x, "0:1 4:1");
        x.give(4);
        due.done("10: none", () -> x.keep(1, 0));
        x.free(0);
        due.shows("10: none is kept", x, "0:2");
        due.done("10: 255", () -> x.keep(1, 255));
        x.give(4);
        x.free(0);
        due.shows("10: both are kept", x, "0:1 4:1");
    }

    private static void keepJoinsNothingNow() {
        Roof x = Roof.halves(3, 4);
        x.keepAll(3, 255);
        x.give(4);
        x.free(0);
        x.keepAll(3, 0);
        due.shows("10: all stay apart", x, "0:1 4:1 8:2");
        due.is("10: no joins", () -> x.count(7), 0);
        x.give(8);
        x.free(8);
        due.shows("10: its buddy is split", x, "0:1 4:1 8:2");
        x.give(4);
        x.free(0);
        due.shows("10: what is freed then is joined", x, "0:3");
    }

    private static void keepOfEachClassIsItsOwn() {
        Roof x = new Roof();
        x.row(1, 4, 0, 0);
        x.row(2, 4, 0, 0);
        x.row(3, 8, 1, 2);
        x.build(3);
        x.keep(1, 1);
        x.giveTimes(2, 4);
        x.freeAll(4, 0);
        due.shows("10: one of class 1 is kept, though one of class 2 is free", x, "0:1 4:2");
        x.give(4);
        due.is("10: the other", () -> x.give(4), 4);
        x.freeAll(0, 4);
        due.shows("10: none of class 2 is kept", x, "0:3");
    }

    private static void joinsNothing() {
        Roof x = Roof.halves(3, 4);
        due.is("11: one free node", () -> x.join(), 0);
        x.give(16);
        due.is("11: no free node", () -> x.join(), 0);
        x.build(3);
        x.giveTimes(4, 4);
        x.freeAll(4, 12);
        due.is("11: no two free buddies", () -> x.join(), 0);
        due.shows("11: nothing is joined", x, "0:1=4 4:1 8:1=4 12:1");
        due.is("11: none is counted", () -> x.count(7), 0);
    }

    private static void joinsAllOverAndOver() {
        Roof x = Roof.halves(6, 4);
        x.keepAll(6, 255);
        x.giveTimes(32, 4);
        for (int i = 31; i >= 0; i--) {
            x.free(4 * i);
        }
        due.is("11: 32 are free", () -> x.nodes(1, 0), 32);
        due.is("11: 31 joins", () -> x.join(), 31);
        due.shows("11: up to the top", x, "0:6");
        due.is("11: they are counted", () -> x.count(7), 31);
        due.is("11: then there is none", () -> x.join(), 0);
        due.is("11: and none more is counted", () -> x.count(7), 31);
    }

    private static void joinsWhatIsKept() {
        Roof x = Roof.halves(4, 4);
        x.keepAll(4, 255);
        x.give(1);
        x.give(9);
        x.free(0);
        due.is("11: what is kept is joined, too", () -> x.join(), 2);
        due.shows("11: but for a live one", x, "0:3 16:3=9");
        x.give(1);
        x.free(0);
        due.shows("11: and is kept again later", x, "0:1 4:1 8:2 16:3=9");
    }

    private static void nodesWantAReachedClass() {
        Roof x = gaps();
        for (int k : ODD) {
            due.noArgument("12: class " + k, () -> x.nodes(k, 0));
        }
        for (int k : new int[] {0, 1, 3, 22, 24}) {
            for (int what = 0; what <= 3; what++) {
                int each = what;
                due.noArgument("12: class " + k + " isn't reached, what " + what, () -> x.nodes(k, each));
            }
        }
        due.is("12: class 2", () -> x.nodes(2, 0), 0);
        due.is("12: class 23", () -> x.nodes(23, 0), 1);
        x.build(24);
        due.is("12: class 24 once it is reached", () -> x.nodes(24, 0), 1);
    }

    private static void nodesTellThreeThings() {
        Roof x = Roof.halves(4, 4);
        x.giveTimes(8, 4);
        x.freeAll(8, 16, 28);
        int[] want = {3, 8, 28};
        for (int what = 0; what <= 2; what++) {
            int each = what;
            due.is("12: what " + what, () -> x.nodes(1, each), want[each]);
        }
        for (int what : new int[] {LEAST, -1, 3, GREATEST}) {
            due.noArgument("12: what " + what, () -> x.nodes(1, what));
            due.noArgument("12: what " + what + " without any", () -> x.nodes(2, what));
        }
    }

    private static void nodesAre(Roof x, int k, int many, int lowest, int highest) {
        due.is("12: how many of " + k, () -> x.nodes(k, 0), many);
        due.is("12: the lowest of " + k, () -> x.nodes(k, 1), lowest);
        due.is("12: the highest of " + k, () -> x.nodes(k, 2), highest);
    }

    private static void nodesWithoutAny() {
        Roof x = Roof.halves(3, 4);
        nodesAre(x, 1, 0, -1, -1);
        nodesAre(x, 2, 0, -1, -1);
        nodesAre(x, 3, 1, 0, 0);
        x.give(16);
        nodesAre(x, 3, 0, -1, -1);
        x.free(0);
        x.give(1);
        nodesAre(x, 3, 0, -1, -1);
    }

    private static void nodesOfOneAndOfMany() {
        Roof x = Roof.halves(5, 4);
        x.give(4);
        nodesAre(x, 1, 1, 4, 4);
        nodesAre(x, 2, 1, 8, 8);
        nodesAre(x, 4, 1, 32, 32);
        x.build(5);
        x.giveTimes(16, 4);
        x.freeAll(60, 0);
        nodesAre(x, 1, 2, 0, 60);
        x.free(4);
        nodesAre(x, 1, 1, 60, 60);
        nodesAre(x, 2, 1, 0, 0);
    }

    private static void nodesOfUnlikeBuddies() {
        Roof x = new Roof();
        x.family(1, 4, 4, 5);
        x.build(4);
        x.giveTimes(2, 4);
        due.shows("12: unlike buddies", x, "0:2 5:1=4 9:2=4");
        nodesAre(x, 2, 1, 0, 0);
        x.free(5);
        nodesAre(x, 1, 0, -1, -1);
        nodesAre(x, 2, 0, -1, -1);
        nodesAre(x, 3, 1, 0, 0);
        x.free(9);
        nodesAre(x, 2, 0, -1, -1);
        nodesAre(x, 3, 0, -1, -1);
        nodesAre(x, 4, 1, 0, 0);
    }

    private static void nodesOfAll24Classes() {
        Roof x = Roof.chain(0);
        nodesAre(x, 24, 1, 0, 0);
        nodesAre(x, 23, 0, -1, -1);
        x.give(4);
        nodesAre(x, 24, 0, -1, -1);
        nodesAre(x, 23, 1, 0, 0);
        due.is("12: the top isn't free", () -> x.give(96), -1);
        due.is("12: the next is", () -> x.give(92), 0);
        nodesAre(x, 23, 0, -1, -1);
        x.free(0);
        for (int w = 4 * 22; w >= 8; w -= 4) {
            x.give(w);
            x.free(0);
        }
        x.keepAll(24, 255);
        x.give(8);
        for (int k = 3; k <= 24; k++) {
            int each = k;
            due.is("12: none of class " + k, () -> x.nodes(each, 0), 0);
        }
        nodesAre(x, 1, 21, 8, 88);
        x.free(0);
        nodesAre(x, 2, 1, 0, 0);
    }

    private static void leavesFrom0On() {
        Roof x = Roof.halves(4, 4);
        for (int i : new int[] {LEAST, -1, 1, 2, GREATEST}) {
            for (int what = 0; what <= 2; what++) {
                int each = what;
                due.is("13: one node, none at " + i, () -> x.leaf(i, each), -1);
            }
        }
        x.give(1);
        int[] address = {0, 4, 8, 16};
        for (int i = 0; i < 4; i++) {
            int each = i;
            due.is("13: node " + i, () -> x.leaf(each, 0), address[each]);
        }
        for (int i : new int[] {LEAST, -1, 4, 5, GREATEST}) {
            due.is("13: none at " + i, () -> x.leaf(i, 0), -1);
        }
        x.free(0);
        due.is("13: one node again", () -> x.leaf(0, 1), 4);
        due.is("13: and no second", () -> x.leaf(1, 1), -1);
    }

    private static void leafTellsThreeThings() {
        Roof x = Roof.halves(4, 4);
        x.give(1);
        x.give(6);
        int[][] want = {{0, 1, 1}, {4, 1, 0}, {8, 2, 6}, {16, 3, 0}};
        for (int i = 0; i < 4; i++) {
            int at = i;
            for (int what = 0; what <= 2; what++) {
                int each = what;
                due.is("13: node " + i + ", what " + what, () -> x.leaf(at, each), want[at][each]);
            }
            for (int what : new int[] {LEAST, -1, 3, GREATEST}) {
                due.is("13: node " + i + ", what " + what, () -> x.leaf(at, what), -1);
            }
        }
        due.is("13: neither node nor what", () -> x.leaf(4, 3), -1);
        due.is("13: the least of both", () -> x.leaf(LEAST, LEAST), -1);
        due.is("13: the greatest of both", () -> x.leaf(GREATEST, GREATEST), -1);
        x.free(8);
        due.is("13: the request of what is free again", () -> x.leaf(2, 2), 0);
    }

    private static void leafOfAFullMemory() {
        Roof x = Roof.halves(10, 4);
        x.giveByScript(16, 16, 4);
        due.is("13: the first of 256 blocks", () -> x.leaf(0, 2), 4);
        due.is("13: the last of them", () -> x.leaf(255, 0), 1020);
        due.is("13: its request", () -> x.leaf(255, 2), 4);
        due.is("13: the free one behind", () -> x.leaf(256, 0), 1024);
        due.is("13: is free", () -> x.leaf(256, 2), 0);
        due.is("13: there is no other", () -> x.leaf(257, 0), -1);
    }

    private static void countsTenThings() {
        Roof x = Roof.halves(4, 4);
        x.give(3);
        x.give(6);
        x.free(0);
        x.give(2);
        due.counts("14: two blocks", x, "32 8 4 20 2 2 16 1 4 2");
        for (int what : new int[] {LEAST, -2, -1, 10, 11, GREATEST}) {
            due.is("14: what " + what, () -> x.count(what), -1);
        }
    }

    private static void countsOfAFullMemory() {
        Roof x = Roof.halves(3, 4);
        x.giveTimes(4, 3);
        due.counts("14: no free node", x, "16 12 4 0 4 0 0 0 3 0");
        x.free(12);
        due.counts("14: one free node", x, "16 9 3 4 3 1 4 0 3 1");
        Roof top = Roof.halves(3, 4);
        top.give(9);
        due.counts("14: the top is live", top, "16 9 7 0 1 0 0 0 0 0");
    }

    private static void countsIfAllWasJoined() {
        Roof x = Roof.halves(4, 4);
        x.keepAll(4, 255);
        x.giveTimes(8, 4);
        for (int i = 0; i < 8; i++) {
            x.free(4 * i);
        }
        due.counts("14: all free, kept apart", x, "32 0 0 32 0 8 32 0 7 1");
        due.is("14: nothing is joined by that", () -> x.nodes(1, 0), 8);
        due.is("14: given in between", () -> x.give(4), 0);
        due.counts("14: the first is live", x, "32 4 0 28 1 7 16 0 7 3");
        x.giveTimes(4, 4);
        due.counts("14: the first five are live", x, "32 20 0 12 5 3 8 0 7 2");
        x.free(4);
        due.counts("14: no buddies but two", x, "32 16 0 16 4 4 8 0 7 3");
        Roof ends = Roof.halves(4, 4);
        ends.giveTimes(8, 4);
        ends.freeAll(4, 8, 12, 16, 20, 24);
        due.shows("14: both ends are live", ends, "0:1=4 4:1 8:2 16:2 24:1 28:1=4");
        due.counts("14: the greatest is neither the first nor the last", ends, "32 8 0 24 2 4 8 2 7 4");
    }

    private static void countsJoinsAndSplitsSinceTheBuild() {
        Roof x = Roof.halves(4, 4);
        x.give(1);
        x.free(0);
        x.give(1);
        x.free(0);
        due.is("14: joins so far", () -> x.count(7), 6);
        due.is("14: splits so far", () -> x.count(8), 6);
        x.build(4);
        due.is("14: none since it was built", () -> x.count(7) + x.count(8), 0);
        x.give(32);
        x.free(0);
        due.is("14: a whole top wants none", () -> x.count(7) + x.count(8), 0);
    }

    private static void countsOfTheGreatestMemory() {
        Roof x = Roof.halves(21, 4);
        x.give(1);
        due.counts("14: one word of the greatest", x,
                MOST + " 1 3 " + (MOST - 4) + " 1 20 " + MOST / 2 + " 0 20 20");
        x.change(0, 4);
        due.is("14: no waste", () -> x.count(2), 0);
        x.free(0);
        due.counts("14: none again", x, MOST + " 0 0 " + MOST + " 0 1 " + MOST + " 20 20 1");
    }

    private static void roomWantsOneWordAtLeast() {
        Roof x = Roof.halves(3, 4);
        for (int w : new int[] {LEAST, -1, 0}) {
            due.noArgument("15: " + w + " words", () -> x.room(w));
        }
        due.is("15: 1 word", () -> x.room(1), 4);
        due.is("15: all words", () -> x.room(16), 1);
        due.is("15: one more", () -> x.room(17), 0);
        due.is("15: the greatest int", () -> x.room(GREATEST), 0);
    }

    private static void roomOfNothing() {
        Roof x = Roof.halves(2, 4);
        x.giveTimes(2, 1);
        due.is("15: a full memory", () -> x.room(1), 0);
        due.is("15: also for more", () -> x.room(8), 0);
        for (int w : new int[] {LEAST, 0}) {
            due.noArgument("15: " + w + " words of a full memory", () -> x.room(w));
        }
        x.free(4);
        due.is("15: one is free", () -> x.room(4), 1);
        due.is("15: but holds no more", () -> x.room(5), 0);
    }

    private static void roomBeyond256() {
        Roof x = Roof.halves(21, 4);
        due.is("15: a million", () -> x.room(4), 1 << 20);
        due.is("15: half of it", () -> x.room(5), 1 << 19);
        x.giveByScript(16, 16, 4);
        due.noState("15: there are 256 blocks", () -> x.give(4));
        due.is("15: the bound doesn't count", () -> x.room(4), (1 << 20) - 256);
        due.noArgument("15: no words, with 256 blocks", () -> x.room(0));
        Roof small = Roof.halves(9, 4);
        due.is("15: exactly 256", () -> small.room(3), 256);
        Roof more = new Roof();
        more.row(1, 4, 0, 0);
        for (int k = 2; k <= 9; k++) {
            more.row(k, 4 << k - 1, k - 1, k - 1);
        }
        more.row(10, 1028, 1, 9);
        more.build(10);
        due.is("15: exactly 257", () -> more.room(3), 257);
    }

    private static void roomChangesNothing() {
        Roof x = Roof.halves(4, 4);
        x.keepAll(4, 255);
        x.give(4);
        x.give(9);
        x.free(0);
        for (int w : new int[] {1, 4, 5, 8, 9, 16, 17, GREATEST}) {
            x.room(w);
        }
        due.shows("15: nothing is given, joined or split", x, "0:1 4:1 8:2 16:3=9");
        due.counts("15: nor counted", x, "32 9 7 16 1 3 16 0 3 1");
    }

    private static void roomOnceAllIsJoined() {
        Roof x = Roof.halves(4, 4);
        x.keepAll(4, 255);
        x.giveTimes(8, 4);
        for (int i = 0; i < 7; i++) {
            x.free(4 * i);
        }
        int[][] want = {{4, 7}, {5, 3}, {8, 3}, {9, 1}, {16, 1}, {17, 0}};
        for (int[] each : want) {
            due.is("15: kept apart, " + each[0] + " words", () -> x.room(each[0]), each[1]);
        }
        x.free(28);
        due.is("15: all of it once joined", () -> x.room(32), 1);
        due.is("15: and no more", () -> x.room(33), 0);
    }

    /** Nodes of 6, 4 and 10 words, the first two kept apart. */
    private static Roof lopsided() {
        Roof x = new Roof();
        x.row(1, 4, 0, 0);
        x.row(2, 6, 0, 0);
        x.row(3, 10, 2, 1);
        x.row(4, 20, 3, 3);
        x.build(4);
        x.keepAll(4, 255);
        x.give(6);
        x.free(0);
        return x;
    }

    private static void roomAsItIsGiven() {
        due.shows("15: lopsided", lopsided(), "0:2 6:1 10:3");
        for (int w = 1; w <= 21; w++) {
            int words = w;
            Roof x = lopsided();
            int room = x.room(w);
            int given = 0;
            while (x.give(words) >= 0) {
                given++;
            }
            due.same("15: lopsided, " + w + " words", "" + room, "" + given);
            due.is("15: then none", () -> x.room(words), 0);
        }
    }

    private static void roomOfAll24Classes() {
        Roof x = Roof.chain(0);
        int[][] whole = {{1, 24}, {4, 24}, {5, 1}, {8, 1}, {95, 1}, {96, 1}, {97, 0}};
        for (int[] each : whole) {
            due.is("15: in 24 classes, " + each[0] + " words", () -> x.room(each[0]), each[1]);
        }
        x.give(4);
        int[][] less = {{4, 23}, {5, 1}, {92, 1}, {93, 0}, {96, 0}};
        for (int[] each : less) {
            due.is("15: in 23 of them, " + each[0] + " words", () -> x.room(each[0]), each[1]);
        }
        x.free(92);
        x.give(96);
        due.is("15: in none of them", () -> x.room(1), 0);
    }
}
