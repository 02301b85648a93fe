/** The sentences of the document's section 'Terms' that name a boundary case, each with a test of its own. */
public final class TermsTests {
    private static final int MOST = Roof.MOST_WORDS;
    private static final int LEAST = Roof.LEAST;
    private static final int GREATEST = Roof.GREATEST;
    private static final Due due = new Due("TermsTests");

    public static void main(String[] args) {
        classesAre1To24();
        aLeafIsNeverSplit();
        theRightChildLiesBehindTheLeft();
        theTopAndItsSidesAreReached();
        sidesOfABadClassAreNotReached();
        badIfALeafIsTooSmallOrTooGreat();
        badIfASplitClassIsTooSmallOrTooGreat();
        badIfALeafHasARightClass();
        badIfASideIsNoClass();
        badIfASideIsNotSmaller();
        badIfTheSumDiffers();
        theMemoryIsOneNode();
        joinedBuddiesBecomeTheirNode();
        onlyBuddiesAreJoined();
        aNodeHoldsItsSizeAndNoMore();
        theLeastThatHoldsIsTaken();
        theLowestOfThemIsTaken();
        theLowestOfAlikeClassesIsTaken();
        nothingIsJoinedWhileOneHolds();
        allIsJoinedWhereNoneHolds();
        splitsAsLongAsAChildHolds();
        goesOnWithTheOnlyChildThatHolds();
        goesOnWithTheSmallerChild();
        goesOnWithTheLeftIfAlike();
        asManyAsAreKeptStayApart();
        keptOnesOfTheFreedClassCount();
        aBuddyThatIsNotFreeIsNotJoined();
        theJoinedOneIsJoinedOn();
        theJoinedOneIsKeptByItsOwnClass();
        keeps255AndJoinsThe256th();
        theTopHasNoBuddy();
        blocksAre256AtMost();
        wasteIsSizeLessRequest();
        answersUpToThe512thCall();
        due.close();
    }

    private static void classesAre1To24() {
        Roof x = new Roof();
        x.row(1, 4, 0, 0);
        x.row(24, 5, 0, 0);
        x.row(12, 9, 1, 24);
        due.is("classes 1 and 24 as sides", () -> x.build(12), 3);
        due.is("24 lies to the right", () -> x.give(5), 4);
        x.row(12, 9, 24, 1);
        due.is("and the other way round", () -> x.build(12), 3);
        due.is("24 lies to the left", () -> x.give(5), 0);
        x.row(23, 4, 0, 0);
        x.row(1, 9, 23, 24);
        due.is("sides of greater numbers", () -> x.build(1), 3);
        due.is("lie where they are told", () -> x.give(5), 4);
    }

    private static void aLeafIsNeverSplit() {
        Roof x = new Roof();
        x.row(3, MOST, 0, 0);
        x.build(3);
        due.is("one word of the greatest leaf", () -> x.give(1), 0);
        due.shows("the leaf stays whole", x, "0:3=1");
        due.is("nothing was split", () -> x.count(8), 0);
    }

    private static void theRightChildLiesBehindTheLeft() {
        Roof x = new Roof();
        x.row(1, 4, 0, 0);
        x.row(2, 7, 0, 0);
        x.row(3, 11, 2, 1);
        x.row(4, 18, 2, 3);
        x.build(4);
        due.is("the left child begins where its node does", () -> x.give(4), 0);
        due.is("the right one's right one", () -> x.give(4), 14);
        due.shows("each behind the one before", x, "0:2=4 7:2 14:1=4");
    }

    private static void theTopAndItsSidesAreReached() {
        Roof x = new Roof();
        x.family(0, 5, 4, 0);
        x.row(24, -1, 77, 1);
        due.is("a leaf alone", () -> x.build(1), 1);
        due.is("it is reached", () -> x.nodes(1, 0), 1);
        due.noArgument("what lies above it isn't", () -> x.nodes(2, 0));
        due.is("each class once, bad ones elsewhere don't matter", () -> x.build(5), 5);
        due.noArgument("those aren't reached", () -> x.nodes(24, 0));
        x.row(3, 16, 0, 0);
        due.is("nothing is reached through a leaf", () -> x.build(5), 3);
        due.noArgument("also what is a class", () -> x.nodes(2, 0));
        x.row(9, 4, 0, 0);
        x.row(8, 5, 0, 0);
        x.row(7, 9, 8, 9);
        x.row(6, 14, 7, 8);
        due.is("to the left and to the right", () -> x.build(6), 4);
        for (int k = 6; k <= 9; k++) {
            int each = k;
            due.is("class " + k + " is reached", () -> x.nodes(each, 0), each == 6 ? 1 : 0);
        }
    }

    private static void sidesOfABadClassAreNotReached() {
        Roof x = new Roof();
        x.row(1, 3, 0, 0);
        x.row(2, 4, 0, 0);
        x.row(5, 8, 1, 2);
        due.is("a bad top's bad side isn't reached", () -> x.build(5), -5);
        x.row(6, 12, 5, 2);
        due.is("nor is that of a bad side", () -> x.build(6), -5);
        x.row(5, 7, 1, 2);
        due.is("a good one's bad side is", () -> x.build(5), -1);
        x.row(3, 2, 0, 0);
        x.row(5, 5, 1, 3);
        due.is("the lowest of two bad sides, the left one", () -> x.build(5), -1);
        x.row(5, 5, 3, 1);
        due.is("the lowest of two bad sides, the right one", () -> x.build(5), -1);
        x.row(6, 9, 1, 1);
        x.row(7, 12, 6, 1);
        due.is("the lowest, though it lies less deep", () -> x.build(7), -1);
    }

    private static void leafIs(int size, int right, int want) {
        Roof x = new Roof();
        x.row(7, size, 0, right);
        due.is("bad: a leaf of " + size + " with right " + right, () -> x.build(7), want);
    }

    private static void badIfALeafIsTooSmallOrTooGreat() {
        for (int size : new int[] {LEAST, -4, -1, 0, 1, 3, MOST + 1, GREATEST}) {
            leafIs(size, 0, -7);
        }
        for (int size : new int[] {4, 5, MOST - 1, MOST}) {
            leafIs(size, 0, 1);
        }
    }

    /** What build(7) answers, class 7 having class 1 to its left and class 2 to its right. */
    private static void pairIs(int size, int leftSize, int rightSize, int want) {
        Roof x = new Roof();
        x.row(1, leftSize, 0, 0);
        x.row(2, rightSize, 0, 0);
        x.row(7, size, 1, 2);
        due.is("bad: " + size + " of " + leftSize + " and " + rightSize, () -> x.build(7), want);
    }

    private static void badIfASplitClassIsTooSmallOrTooGreat() {
        pairIs(8, 4, 4, 3);
        pairIs(MOST, MOST - 4, 4, 3);
        pairIs(MOST, 4, MOST - 4, 3);
        pairIs(MOST, MOST / 2, MOST / 2, 3);
        pairIs(MOST + 1, MOST - 3, 4, -7);
        pairIs(MOST + 1, 4, MOST - 3, -7);
        pairIs(GREATEST, GREATEST - 4, 4, -7);
        pairIs(3, 2, 1, -7);
        pairIs(0, 0, 0, -7);
        pairIs(LEAST, LEAST / 2, LEAST / 2, -7);
        pairIs(4, 2, 2, -1);
        pairIs(7, 4, 3, -2);
        pairIs(7, 3, 4, -1);
    }

    private static void badIfALeafHasARightClass() {
        leafIs(8, 0, 1);
        for (int right : new int[] {1, 7, 24, 25, -1, LEAST, GREATEST}) {
            leafIs(8, right, -7);
        }
    }

    private static void sidesAre(int left, int right, int want) {
        Roof x = new Roof();
        x.row(1, 4, 0, 0);
        x.row(24, 4, 0, 0);
        x.row(7, 8, left, right);
        due.is("bad: sides " + left + " and " + right, () -> x.build(7), want);
    }

    private static void badIfASideIsNoClass() {
        sidesAre(1, 1, 2);
        sidesAre(24, 24, 2);
        sidesAre(1, 24, 3);
        for (int none : new int[] {LEAST, -24, -1, 25, 26, 32, 33, 57, 256, 257, GREATEST}) {
            sidesAre(none, 1, -7);
            sidesAre(1, none, -7);
            sidesAre(none, none, -7);
        }
        sidesAre(1, 0, -7);
        sidesAre(24, 0, -7);
    }

    // Were the class taken for good, its sides would be reached, whose numbers are lower and one of which is bad.
    private static void badIfASideIsNotSmaller() {
        pairIs(8, 8, 0, -7);
        pairIs(8, 0, 8, -7);
        pairIs(8, 9, -1, -7);
        pairIs(8, -1, 9, -7);
        pairIs(8, GREATEST, LEAST + 9, -7);
        pairIs(8, LEAST + 9, GREATEST, -7);
        pairIs(8, 7, 1, -2);
        pairIs(8, 1, 7, -1);
        Roof x = new Roof();
        x.row(1, 0, 0, 0);
        x.row(7, 8, 7, 1);
        due.is("bad: its own left side", () -> x.build(7), -7);
        x.row(7, 8, 1, 7);
        due.is("bad: its own right side", () -> x.build(7), -7);
        x.row(1, 4, 0, 0);
        x.row(5, 8, 1, 6);
        x.row(6, 4, 5, 1);
        due.is("bad: a side of one that it is a side of", () -> x.build(5), -6);
    }

    private static void badIfTheSumDiffers() {
        pairIs(9, 4, 5, 3);
        pairIs(8, 4, 5, -7);
        pairIs(10, 4, 5, -7);
        pairIs(MOST, MOST / 2, MOST / 2 - 1, -7);
        pairIs(MOST, MOST / 2, MOST / 2 + 1, -7);
        pairIs(8, LEAST, LEAST + 8, -7);
        pairIs(8, LEAST + 4, LEAST + 4, -7);
        pairIs(MOST, LEAST + MOST, LEAST, -7);
    }

    private static void theMemoryIsOneNode() {
        Roof x = Roof.halves(21, 4);
        due.shows("the top, at address 0", x, "0:21");
        due.counts("a memory of one node", x, MOST + " 0 0 " + MOST + " 0 1 " + MOST + " 0 0 1");
        Roof least = Roof.halves(1, 4);
        due.shows("the least one", least, "0:1");
        due.counts("the least one", least, "4 0 0 4 0 1 4 0 0 1");
    }

    /** Classes 3 and 4 are alike: both of two of class 1. */
    private static Roof alike() {
        Roof x = new Roof();
        x.row(1, 4, 0, 0);
        x.row(3, 8, 1, 1);
        x.row(4, 8, 1, 1);
        x.row(5, 16, 4, 3);
        x.build(5);
        return x;
    }

    private static void joinedBuddiesBecomeTheirNode() {
        Roof x = alike();
        x.keep(3, 1);
        x.keep(4, 1);
        x.giveTimes(4, 4);
        x.freeAll(0, 4, 8, 12);
        due.shows("each is of the class that was split", x, "0:4 8:3");
        due.is("as is the top", () -> x.join(), 1);
        due.shows("in place of them", x, "0:5");
    }

    private static void onlyBuddiesAreJoined() {
        Roof x = Roof.halves(3, 4);
        x.giveTimes(4, 4);
        x.freeAll(4, 8);
        due.is("neighbours that are no buddies", () -> x.join(), 0);
        due.shows("stay apart", x, "0:1=4 4:1 8:1 12:1=4");
        due.is("and hold no more than each", () -> x.give(5), -1);
    }

    private static void aNodeHoldsItsSizeAndNoMore() {
        for (int size : new int[] {4, 5, 1000, MOST - 1, MOST}) {
            Roof x = new Roof();
            x.row(1, size, 0, 0);
            x.build(1);
            due.is("one word more than " + size, () -> x.give(size + 1), -1);
            due.is("exactly " + size, () -> x.give(size), 0);
        }
        for (int w = 1; w <= 4; w++) {
            Roof x = Roof.halves(1, 4);
            int words = w;
            due.is("4 words hold " + w, () -> x.give(words), 0);
            due.is("and are asked for " + w, () -> x.block(0, 1), words);
        }
    }

    /** Free leaves of 32, 16 and 8 words, the greater the lower, and a block of 4 behind them. */
    private static Roof stairs() {
        Roof x = new Roof();
        x.row(1, 32, 0, 0);
        x.row(2, 16, 0, 0);
        x.row(3, 8, 0, 0);
        x.row(4, 4, 0, 0);
        x.row(5, 12, 3, 4);
        x.row(6, 28, 2, 5);
        x.row(7, 60, 1, 6);
        x.build(7);
        x.give(1);
        return x;
    }

    private static void theLeastThatHoldsIsTaken() {
        due.shows("stairs", stairs(), "0:1 32:2 48:3 56:4=1");
        int[][] want = {{1, 48}, {8, 48}, {9, 32}, {16, 32}, {17, 0}, {32, 0}, {33, -1}};
        for (int[] each : want) {
            Roof x = stairs();
            due.is("the least that holds " + each[0], () -> x.give(each[0]), each[1]);
        }
    }

    private static void theLowestOfThemIsTaken() {
        Roof x = Roof.halves(4, 4);
        x.keepAll(4, 255);
        x.giveTimes(8, 4);
        x.freeAll(20, 4, 12);
        due.is("the lowest, neither the first nor the last freed", () -> x.give(4), 4);
        due.is("then the next", () -> x.give(1), 12);
        due.is("then the highest", () -> x.give(2), 20);
        due.is("then none", () -> x.give(3), -1);
    }

    private static void theLowestOfAlikeClassesIsTaken() {
        Roof x = alike();
        x.keep(3, 1);
        x.keep(4, 1);
        x.giveTimes(2, 8);
        x.freeAll(8, 0);
        due.shows("alike in size", x, "0:4 8:3");
        due.is("the lowest, though its class has the greater number", () -> x.give(7), 0);
        due.is("then the other", () -> x.give(7), 8);
    }

    /** Of eight leaves the last is live, the others are free and kept apart. */
    private static Roof apart() {
        Roof x = Roof.halves(4, 4);
        x.keepAll(4, 255);
        x.giveTimes(8, 4);
        x.freeAll(0, 4, 8, 12, 16, 20, 24);
        return x;
    }

    private static void nothingIsJoinedWhileOneHolds() {
        Roof x = apart();
        due.is("a free node holds 4 words", () -> x.give(4), 0);
        due.is("no joins", () -> x.count(7), 0);
        due.shows("all stay apart", x, "0:1=4 4:1 8:1 12:1 16:1 20:1 24:1 28:1=4");
    }

    private static void allIsJoinedWhereNoneHolds() {
        Roof x = apart();
        due.is("no free node holds 5 words: of the joined ones the least", () -> x.give(5), 16);
        due.shows("all is joined over and over, not only what is needed", x, "0:3 16:2=5 24:1 28:1=4");
        due.is("four joins", () -> x.count(7), 4);
        Roof y = apart();
        due.is("held by two joined over and over", () -> y.give(16), 0);
        due.shows("as one", y, "0:3=16 16:2 24:1 28:1=4");
        Roof z = apart();
        due.is("held by none even so", () -> z.give(17), -1);
        due.shows("all is joined then", z, "0:3 16:2 24:1 28:1=4");
        due.is("four joins there, too", () -> z.count(7), 4);
        Roof whole = apart();
        whole.free(28);
        due.is("what was joined is split again", () -> whole.give(9), 0);
        due.shows("from the top on", whole, "0:3=9 16:3");
        due.is("seven joins", () -> whole.count(7), 7);
        due.is("one split more", () -> whole.count(8), 8);
    }

    private static void splitsAsLongAsAChildHolds() {
        int[][] want = {{4, 1, 3}, {5, 2, 2}, {8, 2, 2}, {9, 3, 1}, {16, 3, 1}, {17, 4, 0}, {32, 4, 0}};
        for (int[] each : want) {
            Roof x = Roof.halves(4, 4);
            due.is("give " + each[0], () -> x.give(each[0]), 0);
            due.is(each[0] + " words are of class", () -> x.block(0, 0), each[1]);
            due.is(each[0] + " words want splits", () -> x.count(8), each[2]);
            due.is("the others are free, for " + each[0], () -> x.count(5), each[2]);
        }
    }

    /** A node of 9 or 4 + 5 words. */
    private static Roof nine(int left, int right) {
        Roof x = new Roof();
        x.row(1, 4, 0, 0);
        x.row(2, 5, 0, 0);
        x.row(3, 9, left, right);
        x.build(3);
        return x;
    }

    private static void goesOnWithTheOnlyChildThatHolds() {
        Roof right = nine(1, 2);
        due.is("the right child alone holds 5", () -> right.give(5), 4);
        due.shows("the left one is free", right, "0:1 4:2=5");
        Roof left = nine(2, 1);
        due.is("the left child alone holds 5", () -> left.give(5), 0);
        due.shows("the right one is free", left, "0:2=5 5:1");
        Roof none = nine(1, 2);
        due.is("no child holds 6", () -> none.give(6), 0);
        due.shows("it isn't split", none, "0:3=6");
    }

    private static void goesOnWithTheSmallerChild() {
        Roof left = nine(1, 2);
        due.is("both hold 4: the smaller is the left one", () -> left.give(4), 0);
        due.shows("the greater is free", left, "0:1=4 4:2");
        Roof right = nine(2, 1);
        due.is("both hold 4: the smaller is the right one", () -> right.give(4), 5);
        due.shows("the greater is free here, too", right, "0:2 5:1=4");
    }

    private static void goesOnWithTheLeftIfAlike() {
        Roof x = alike();
        due.is("alike, the left one of the greater number", () -> x.give(8), 0);
        due.shows("is taken", x, "0:4=8 8:3");
        Roof y = new Roof();
        y.row(1, 4, 0, 0);
        y.row(2, 4, 0, 0);
        y.row(3, 8, 1, 2);
        y.build(3);
        due.is("alike, the left one of the lower number", () -> y.give(1), 0);
        due.shows("is taken, too", y, "0:1=1 4:2");
    }

    private static void asManyAsAreKeptStayApart() {
        Roof x = Roof.halves(4, 4);
        x.keep(1, 3);
        x.giveTimes(8, 4);
        x.freeAll(0, 8, 4);
        due.shows("three are free and three are kept", x, "0:1 4:1 8:1 12:1=4 16:1=4 20:1=4 24:1=4 28:1=4");
        x.free(12);
        due.shows("a fourth is one more", x, "0:1 4:1 8:2 16:1=4 20:1=4 24:1=4 28:1=4");
        Roof none = Roof.halves(2, 4);
        none.giveTimes(2, 4);
        none.free(4);
        due.shows("one is more than none", none, "0:1=4 4:1");
        none.free(0);
        due.shows("so they are joined at once", none, "0:2");
        Roof one = Roof.halves(2, 4);
        one.keep(1, 1);
        one.giveTimes(2, 4);
        one.freeAll(4, 0);
        due.shows("two are more than one", one, "0:2");
    }

    private static void keptOnesOfTheFreedClassCount() {
        Roof x = nine(1, 2);
        x.keep(1, 1);
        x.give(4);
        x.give(5);
        x.freeAll(4, 0);
        due.shows("the one of class 1 is kept", x, "0:1 4:2");
        x.give(5);
        x.free(4);
        due.shows("nothing is kept of class 2, so it is joined with it", x, "0:3");
    }

    private static void aBuddyThatIsNotFreeIsNotJoined() {
        Roof x = Roof.halves(3, 4);
        x.giveTimes(2, 4);
        x.give(8);
        x.free(0);
        due.shows("its buddy is live", x, "0:1 4:1=4 8:2=8");
        x.keep(1, 2);
        x.free(4);
        x.free(8);
        due.shows("its buddy is split, though all in it is free", x, "0:1 4:1 8:2");
        due.is("no joins", () -> x.count(7), 0);
    }

    private static void theJoinedOneIsJoinedOn() {
        Roof x = Roof.halves(21, 4);
        x.give(1);
        x.free(0);
        due.shows("up to the top", x, "0:21");
        due.is("by 20 joins", () -> x.count(7), 20);
        Roof y = Roof.halves(4, 4);
        y.give(1);
        y.give(16);
        y.free(0);
        due.shows("up to a live one", y, "0:3 16:3=16");
        due.is("by 2 joins", () -> y.count(7), 2);
    }

    private static void theJoinedOneIsKeptByItsOwnClass() {
        Roof x = Roof.halves(4, 4);
        x.keep(2, 2);
        x.give(4);
        x.free(0);
        due.shows("two of class 2 are kept", x, "0:2 8:2 16:3");
        Roof y = Roof.halves(4, 4);
        y.keep(2, 1);
        y.keep(3, 2);
        y.give(4);
        y.free(0);
        due.shows("two are one more; two of class 3 are kept", y, "0:3 16:3");
        Roof z = Roof.halves(4, 4);
        z.keep(3, 1);
        z.keep(4, 255);
        z.give(4);
        z.free(0);
        due.shows("none is kept below the top", z, "0:4");
    }

    /** 1024 words in 256 blocks of class 1. */
    private static Roof fullOfLeaves() {
        Roof x = Roof.halves(9, 4);
        x.giveByScript(64, 4, 4);
        due.is("256 leaves are given", () -> x.count(4), 256);
        return x;
    }

    private static void keeps255AndJoinsThe256th() {
        Roof x = fullOfLeaves();
        x.keep(1, 255);
        x.free(0);
        for (int i = 2; i < 255; i++) {
            x.free(4 * i);
        }
        x.free(4);
        due.is("255 are kept, though the last one's buddy is free", () -> x.nodes(1, 0), 255);
        due.is("without a join", () -> x.count(7), 0);
        x.free(1020);
        due.is("the 256th is joined with its buddy", () -> x.nodes(1, 0), 254);
        due.is("by one join", () -> x.count(7), 1);
        due.is("to one of class 2", () -> x.nodes(2, 1), 1016);
    }

    private static void theTopHasNoBuddy() {
        Roof x = Roof.halves(1, 4);
        x.give(4);
        due.done("the top is freed", () -> x.free(0));
        due.shows("and stays", x, "0:1");
        due.is("without a join", () -> x.count(7), 0);
    }

    private static void blocksAre256AtMost() {
        Roof x = Roof.halves(10, 4);
        for (int i = 0; i < 255; i++) {
            x.give(1);
        }
        due.is("255 blocks", () -> x.count(4), 255);
        due.is("the 256th", () -> x.give(1), 1020);
        due.is("256 blocks", () -> x.count(4), 256);
        due.noState("no 257th", () -> x.give(1));
        due.is("still 256", () -> x.count(4), 256);
        x.free(8);
        due.is("255 again", () -> x.count(4), 255);
        due.is("the 256th again", () -> x.give(1), 8);
        due.noState("and no 257th", () -> x.give(1));
        due.is("a new memory has none", () -> x.build(10), 10);
        due.is("so it gives", () -> x.give(1), 0);
    }

    private static void wasteIsSizeLessRequest() {
        Roof x = Roof.halves(3, 8);
        x.give(8);
        due.is("no waste", () -> x.count(2), 0);
        x.give(1);
        due.is("all but one word", () -> x.count(2), 7);
        x.give(9);
        due.is("and of the next", () -> x.count(2), 14);
        x.free(8);
        due.is("a free node wastes nothing", () -> x.count(2), 7);
    }

    private static void answersUpToThe512thCall() {
        Roof x = Roof.halves(5, 4);
        while (x.callsLeft() > 2) {
            x.give(1);
            x.free(0);
        }
        due.is("the 511th call", () -> x.give(5), 0);
        due.is("the 512th call", () -> x.block(0, 0), 2);
    }
}
