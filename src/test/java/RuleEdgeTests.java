/** Promises 1 to 4, a new object, row, family and build: each boundary case that they name. */
public final class RuleEdgeTests {
    private static final int MOST = Roof.MOST_WORDS;
    private static final int LEAST = Roof.LEAST;
    private static final int GREATEST = Roof.GREATEST;
    private static final int[] NO_CLASS = {LEAST, -24, -1, 0, 25, 26, 256, GREATEST};
    private static final Due due = new Due("RuleEdgeTests");

    public static void main(String[] args) {
        newHasNoRows();
        newHasNoMemory();
        aRefusedBuildMakesNoMemory();
        rowsAre1To24();
        aRowTakesAnyInts();
        aRowIsToldAnew();
        aMemoryKeepsItsRows();
        aMemoryKeepsItsFamily();
        familyKinds();
        familyLengths();
        familyOthersBecome0();
        familyOthersHaveNoSize();
        familyLeafSizes();
        familySecondLeaf();
        halvesUpToTheGreatestSize();
        neighboursUpToTheGreatestSize();
        weightedUpToTheGreatestSize();
        familySizesThatWrapRound();
        weightedSides();
        familiesOfFewRows();
        buildTops();
        buildCountsTheReached();
        buildKeepsNothing();
        buildBeginsTheBooks();
        buildForgetsTheOldNodes();
        aBadBuildChangesNothing();
        buildTellsTheLowestBad();
        due.close();
    }

    private static void newHasNoRows() {
        Roof x = new Roof();
        for (int k = 1; k <= 24; k++) {
            int top = k;
            due.is("1: row " + k + " is 0", () -> x.build(top), -top);
        }
        x.row(5, 4, 4, 6);
        due.is("1: rows of size 0 to both sides", () -> x.build(5), -5);
        x.row(4, 4, 0, 0);
        x.row(5, 5, 4, 6);
        due.is("1: a row of size 0, not 1, to one side", () -> x.build(5), -5);
    }

    private static void newHasNoMemory() {
        due.noState("1: give", () -> new Roof().give(1));
        due.noState("1: free", () -> new Roof().free(0));
        due.noState("1: change", () -> new Roof().change(0, 1));
        due.noState("1: block", () -> new Roof().block(0, 0));
        due.noState("1: path", () -> new Roof().path(0, 0));
        due.noState("1: keep", () -> new Roof().keep(1, 0));
        due.noState("1: join", () -> new Roof().join());
        due.noState("1: nodes", () -> new Roof().nodes(1, 0));
        due.noState("1: leaf", () -> new Roof().leaf(0, 0));
        due.noState("1: room", () -> new Roof().room(1));
        due.noState("1: replay", () -> new Roof().replay(0));
        for (int what = 0; what <= 9; what++) {
            int each = what;
            due.noState("1: count " + what, () -> new Roof().count(each));
        }
    }

    private static void aRefusedBuildMakesNoMemory() {
        Roof x = new Roof();
        x.row(1, 3, 0, 0);
        due.is("4: a bad class", () -> x.build(1), -1);
        due.noState("4: makes no memory", () -> x.count(0));
        due.noArgument("4: no class", () -> x.build(25));
        due.noState("4: makes none either", () -> x.count(0));
        x.row(1, 4, 0, 0);
        due.is("4: a good one", () -> x.build(1), 1);
        due.is("4: makes one", () -> x.count(0), 4);
    }

    private static void rowsAre1To24() {
        Roof x = new Roof();
        for (int k : NO_CLASS) {
            due.noArgument("2: row " + k, () -> x.row(k, 4, 0, 0));
        }
        for (int k = 1; k <= 24; k++) {
            int each = k;
            due.is("2: refused rows tell nothing of " + k, () -> x.build(each), -each);
        }
        for (int k = 1; k <= 24; k++) {
            int each = k;
            due.done("2: row " + k, () -> x.row(each, 3 + each, 0, 0));
        }
        for (int k = 1; k <= 24; k++) {
            int each = k;
            due.is("2: each class has its row, " + k, () -> x.build(each) * 100 + x.count(0), 103 + each);
        }
    }

    private static void aRowTakesAnyInts() {
        int[] odd = {LEAST, -1, 0, 1, 25, GREATEST};
        for (int size : odd) {
            Roof x = new Roof();
            for (int side : odd) {
                due.done("2: left " + side, () -> x.row(1, size, side, 1));
                due.is("2: it can't be built", () -> x.build(1), -1);
                due.done("2: right " + side, () -> x.row(1, size, 1, side));
                due.is("2: nor that", () -> x.build(1), -1);
            }
        }
    }

    private static void aRowIsToldAnew() {
        Roof x = new Roof();
        x.row(1, 4, 0, 0);
        x.row(1, 9, 0, 0);
        due.is("2: the row told last", () -> x.build(1) + x.count(0), 10);
        x.row(1, 0, 0, 0);
        due.is("2: a row can be taken back", () -> x.build(1), -1);
        x.family(0, 3, 4, 0);
        x.row(2, 9, 0, 0);
        due.is("2: a row of a family is told anew", () -> x.build(3), -3);
        x.row(3, 18, 2, 2);
        due.is("2: together with the other", () -> x.build(3), 2);
    }

    private static void aMemoryKeepsItsRows() {
        Roof x = Roof.halves(4, 4);
        x.give(1);
        x.row(1, 400, 0, 0);
        x.row(2, 8, 0, 0);
        x.row(3, 0, 0, 0);
        x.row(4, 5, 1, 1);
        x.row(5, 4, 0, 0);
        due.is("2: the memory's own words", () -> x.count(0), 32);
        due.is("2: its own leaves", () -> x.give(4), 4);
        due.is("2: its own splits", () -> x.give(9), 16);
        due.shows("2: its own nodes", x, "0:1=1 4:1=4 8:2 16:3=9");
        due.noArgument("2: a row told behind it isn't reached", () -> x.nodes(5, 0));
        due.done("2: one taken back is", () -> x.keep(3, 0));
        x.freeAll(0, 4, 16);
        due.shows("2: its own joins", x, "0:4");
    }

    private static void aMemoryKeepsItsFamily() {
        Roof x = Roof.halves(3, 4);
        x.family(1, 3, 7, 9);
        due.is("3: the memory's own words", () -> x.count(0), 16);
        due.is("3: its own leaves", () -> x.give(4), 0);
        due.shows("3: its own nodes", x, "0:1=4 4:1 8:2");
        due.is("3: what is told is for the next", () -> x.build(3) * 100 + x.count(0), 316);
        due.is("3: which has it", () -> x.give(7), 9);
    }

    private static void familyKinds() {
        Roof x = new Roof();
        for (int kind : new int[] {LEAST, -1, 3, 4, GREATEST}) {
            due.noArgument("3: kind " + kind, () -> x.family(kind, 4, 4, 4));
        }
        due.is("3: nothing is told", () -> x.build(4), -4);
        int[] words = {32, 12, 16};
        for (int kind = 0; kind <= 2; kind++) {
            int each = kind;
            due.done("3: kind " + kind, () -> x.family(each, 4, 4, 4));
            x.build(4);
            due.is("3: words of kind " + kind, () -> x.count(0), words[each]);
        }
    }

    private static void familyLengths() {
        Roof x = new Roof();
        x.row(1, 5, 0, 0);
        for (int kind = 0; kind <= 2; kind++) {
            for (int n : NO_CLASS) {
                int each = kind;
                due.noArgument("3: kind " + kind + " with n " + n, () -> x.family(each, n, 4, 4));
            }
            int each = kind;
            due.is("3: nothing is told by kind " + kind, () -> x.build(1) * 100 + x.count(0), 105);
        }
        due.done("3: 24 neighbours", () -> x.family(1, 24, 4, 4));
        due.is("3: all of them", () -> x.build(24), 24);
        due.done("3: 24 weighted ones", () -> x.family(2, 24, 4, 0));
        due.is("3: all of them, too", () -> x.build(24), 24);
        for (int kind = 0; kind <= 2; kind++) {
            int each = kind;
            due.done("3: one of kind " + kind, () -> x.family(each, 1, 6, 4));
            due.is("3: is a leaf", () -> x.build(1) * 100 + x.count(0), 106);
            due.is("3: and alone", () -> x.build(2), -2);
        }
    }

    private static void familyOthersBecome0() {
        for (int kind = 0; kind <= 2; kind++) {
            for (int n : new int[] {1, 2, 3, 4, 10}) {
                Roof x = new Roof();
                for (int k = 1; k <= 24; k++) {
                    x.row(k, 4, 0, 0);
                }
                x.family(kind, n, 4, 4);
                for (int k = 1; k <= 24; k++) {
                    int each = k;
                    due.same("3: kind " + kind + " with n " + n + " tells row " + k,
                            "" + (x.build(each) == -each), "" + (k > n));
                }
            }
        }
    }

    private static void familyOthersHaveNoSize() {
        Roof x = new Roof();
        x.row(9, 1, 0, 0);
        x.row(7, 5, 1, 9);
        x.row(1, 4, 0, 0);
        due.is("3: a side of size 1", () -> x.build(7), -9);
        x.family(0, 1, 4, 0);
        x.row(7, 5, 1, 9);
        due.is("3: has size 0 then", () -> x.build(7), -7);
    }

    private static void familyLeafSizes() {
        for (int kind = 0; kind <= 2; kind++) {
            int each = kind;
            Roof x = new Roof();
            for (int a : new int[] {LEAST, -4, 0, 3, MOST + 1, GREATEST}) {
                due.noArgument("3: a " + a + " of kind " + kind, () -> x.family(each, 1, a, 4));
            }
            due.is("3: nothing is told", () -> x.build(1), -1);
            for (int a : new int[] {4, MOST}) {
                due.done("3: a " + a + " of kind " + kind, () -> x.family(each, 1, a, 4));
                due.is("3: is its size", () -> x.build(1) + x.count(0), 1 + a);
            }
        }
    }

    private static void familySecondLeaf() {
        Roof x = new Roof();
        for (int b : new int[] {LEAST, -4, 0, 3, MOST + 1, GREATEST}) {
            due.noArgument("3: b " + b + " of two neighbours", () -> x.family(1, 2, 4, b));
            due.noArgument("3: b " + b + " of one neighbour", () -> x.family(1, 1, 4, b));
            due.done("3: b " + b + " doesn't matter to halves", () -> x.family(0, 2, 4, b));
            due.is("3: they are halves", () -> x.build(2) * 100 + x.count(0), 208);
            due.done("3: b " + b + " doesn't matter to weighted ones", () -> x.family(2, 2, 4, b));
            due.is("3: they are weighted", () -> x.build(2) * 100 + x.count(0), 108);
        }
        for (int b : new int[] {4, MOST}) {
            due.done("3: b " + b, () -> x.family(1, 2, 5, b));
            due.is("3: is the second's size", () -> x.build(2) + x.count(0), 1 + b);
            due.is("3: not the first's", () -> x.build(1) + x.count(0), 6);
        }
    }

    /** The family is told with a, its greatest class having these words, and refused with a word more. */
    private static void greatest(int kind, int n, int a, int b, int words) {
        Roof x = new Roof();
        String what = "3: kind " + kind + " with n " + n + ", a " + a + ", b " + b;
        due.done(what, () -> x.family(kind, n, a, b));
        x.build(n);
        due.is(what + ": its words", () -> x.count(0), words);
        due.noArgument(what + ": a word more in a", () -> x.family(kind, n, a + 1, b));
        x.build(n);
        due.is(what + ": it stays as it is told", () -> x.count(0), words);
    }

    private static void halvesUpToTheGreatestSize() {
        greatest(0, 21, 4, 0, MOST);
        greatest(0, 20, 8, 0, MOST);
        greatest(0, 3, MOST / 4, 0, MOST);
        greatest(0, 2, MOST / 2, 0, MOST);
        greatest(0, 1, MOST, 0, MOST);
        Roof x = new Roof();
        for (int n = 22; n <= 24; n++) {
            int each = n;
            due.noArgument("3: no halves of " + n, () -> x.family(0, each, 4, 0));
        }
    }

    private static void neighboursUpToTheGreatestSize() {
        greatest(1, 3, MOST - 4, 4, MOST);
        greatest(1, 3, 4, MOST - 4, MOST);
        greatest(1, 4, MOST - 8, 4, MOST);
        greatest(1, 4, 4, MOST / 2 - 2, MOST);
        greatest(1, 24, 230, 4, 4188158);
        Roof x = new Roof();
        due.done("3: neighbours with the greatest b", () -> x.family(1, 24, 4, 143));
        due.is("3: all are reached", () -> x.build(24), 24);
        due.is("3: their words", () -> x.count(0), 4168795);
        due.noArgument("3: a word more in b", () -> x.family(1, 24, 4, 144));
        due.noArgument("3: a word more in b of three", () -> x.family(1, 3, 4, MOST - 3));
        due.done("3: two leaves of the greatest size aren't joined to a third", () -> x.family(1, 2, MOST, MOST));
    }

    private static void weightedUpToTheGreatestSize() {
        greatest(2, 1, MOST, 0, MOST);
        greatest(2, 2, MOST / 2, 0, MOST);
        greatest(2, 3, MOST / 3, 0, MOST - 1);
        greatest(2, 4, MOST / 4, 0, MOST);
        greatest(2, 5, MOST / 6, 0, MOST - 4);
        greatest(2, 6, MOST / 8, 0, MOST);
        greatest(2, 24, 1024, 0, MOST);
    }

    // In ints 4194304 doubled ten times is 0, and nine times it is the least int.
    private static void familySizesThatWrapRound() {
        Roof x = new Roof();
        for (int n = 2; n <= 24; n++) {
            int each = n;
            due.noArgument("3: halves of the greatest leaf, n " + n, () -> x.family(0, each, MOST, 0));
            due.noArgument("3: weighted, n " + n, () -> x.family(2, each, MOST, 0));
            if (n > 2) {
                due.noArgument("3: neighbours, n " + n, () -> x.family(1, each, MOST, MOST));
            }
        }
        due.is("3: none of them is told", () -> x.build(1), -1);
    }

    private static void weightedSides() {
        int[] size = {0, 1, 2, 3, 4, 6, 8, 12, 16, 24, 32, 48, 64};
        int[] right = {0, 0, 0, 0, 1, 2, 2, 4, 4, 6, 6, 8, 8};
        Roof x = new Roof();
        x.family(2, 12, 5, 0);
        for (int k = 1; k <= 12; k++) {
            int each = k;
            x.build(k);
            due.is("3: weighted class " + k, () -> x.count(0), 5 * size[each]);
            // The right side is never the greater one, so it is what a request of its own size is given.
            int words = k < 4 ? 1 : 5 * size[right[k]];
            int address = k < 4 ? 0 : 5 * size[k - 1];
            due.is("3: the right side of class " + k, () -> x.give(words), address);
            due.is("3: is of class", () -> x.leaf(each < 4 ? 0 : 1, 1), each < 4 ? each : right[each]);
        }
    }

    private static void familiesOfFewRows() {
        Roof x = new Roof();
        x.family(1, 4, 9, 4);
        x.build(4);
        x.give(4);
        due.shows("3: neighbour 4 is of 3 and, to its right, 2", x, "0:3 13:2=4");
        x.build(3);
        x.give(9);
        due.shows("3: neighbour 3 is of 2 and, to its right, 1", x, "0:2 4:1=9");
        x.family(0, 2, 9, 4);
        x.build(2);
        x.give(9);
        due.shows("3: half 2 is of two of 1", x, "0:1=9 9:1");
        x.family(2, 3, 5, 4);
        for (int k = 1; k <= 3; k++) {
            int each = k;
            due.is("3: weighted leaf " + k, () -> x.build(each) * 100 + x.count(0), 100 + 5 * each);
        }
    }

    private static void buildTops() {
        Roof x = new Roof();
        x.family(2, 24, 4, 0);
        for (int top : NO_CLASS) {
            due.noArgument("4: top " + top, () -> x.build(top));
        }
        due.noState("4: none is built", () -> x.join());
        due.is("4: top 1", () -> x.build(1), 1);
        due.is("4: its words", () -> x.count(0), 4);
        due.is("4: top 24", () -> x.build(24), 24);
        due.is("4: their words", () -> x.count(0), 16384);
        x.give(4);
        for (int top : NO_CLASS) {
            due.noArgument("4: top " + top + " behind it", () -> x.build(top));
        }
        due.is("4: the memory stays", () -> x.block(16380, 0), 1);
    }

    private static void buildCountsTheReached() {
        Roof x = new Roof();
        x.family(2, 24, 4, 0);
        int[] want = {1, 1, 1, 3, 5, 6, 7, 8};
        for (int k = 1; k <= 8; k++) {
            int top = k;
            due.is("4: reached from weighted " + k, () -> x.build(top), want[top - 1]);
        }
        x.family(1, 24, 4, 4);
        for (int k = 3; k <= 24; k++) {
            int top = k;
            due.is("4: reached from neighbour " + k, () -> x.build(top), top);
        }
    }

    private static void buildKeepsNothing() {
        Roof x = Roof.halves(4, 4);
        x.keepAll(4, 255);
        x.give(1);
        x.free(0);
        due.shows("4: all is kept", x, "0:1 4:1 8:2 16:3");
        due.is("4: built again", () -> x.build(4), 4);
        x.give(1);
        x.free(0);
        due.shows("4: nothing is kept", x, "0:4");
    }

    private static void buildBeginsTheBooks() {
        Roof x = Roof.halves(4, 4);
        x.keepAll(4, 255);
        x.give(3);
        x.give(5);
        x.free(0);
        due.is("4: a join", () -> x.join(), 1);
        due.counts("4: before", x, "32 5 3 24 1 2 16 1 3 2");
        due.is("4: built again", () -> x.build(4), 4);
        due.counts("4: behind", x, "32 0 0 32 0 1 32 0 0 1");
        due.noArgument("4: no block is left", () -> x.free(8));
        due.is("4: and no request", () -> x.leaf(0, 2), 0);
        due.is("4: a smaller one", () -> x.build(2), 2);
        due.counts("4: has its own words", x, "8 0 0 8 0 1 8 0 0 1");
        due.noArgument("4: and its own classes", () -> x.keep(3, 0));
    }

    private static void buildForgetsTheOldNodes() {
        Roof x = Roof.halves(6, 4);
        x.give(1);
        x.free(0);
        x.give(60);
        due.is("4: built anew behind splits, joins and a block", () -> x.build(6), 6);
        for (int i = 0; i < 32; i++) {
            int address = 4 * i;
            due.is("4: all of it is given, at " + address, () -> x.give(4), address);
        }
        due.counts("4: nothing of the old one is in the books", x, "128 128 0 0 32 0 0 0 31 0");
        for (int i = 0; i < 32; i++) {
            x.free(4 * i);
        }
        due.shows("4: all of it is joined", x, "0:6");
    }

    private static void aBadBuildChangesNothing() {
        Roof x = Roof.halves(4, 4);
        x.keep(1, 2);
        x.give(3);
        x.give(5);
        x.row(1, 5, 0, 0);
        due.is("4: a bad class", () -> x.build(4), -2);
        due.is("4: a class without a row", () -> x.build(9), -9);
        due.shows("4: the memory stays", x, "0:1=3 4:1 8:2=5 16:3");
        due.counts("4: and its books", x, "32 8 4 20 2 2 16 0 3 2");
        x.free(0);
        due.shows("4: and what is kept", x, "0:1 4:1 8:2=5 16:3");
        x.row(1, 4, 0, 0);
        due.is("4: and the rule", () -> x.build(4), 4);
    }

    private static void buildTellsTheLowestBad() {
        Roof x = new Roof();
        x.row(10, 21, 7, 13);
        x.row(7, 9, 5, 20);
        x.row(13, 12, 20, 22);
        x.row(20, 4, 0, 0);
        x.row(5, 5, 0, 0);
        x.row(22, 8, 0, 0);
        due.is("4: all are good", () -> x.build(10), 6);
        x.row(22, 8, 0, 1);
        due.is("4: 22 is bad", () -> x.build(10), -22);
        x.row(20, 4, 0, 24);
        due.is("4: 20 as well", () -> x.build(10), -20);
        x.row(13, 12, 20, 23);
        due.is("4: 13 as well", () -> x.build(10), -13);
        x.row(5, 5, 0, -1);
        due.is("4: 5 as well", () -> x.build(10), -5);
        x.row(7, 9, 20, 20);
        due.is("4: 7 as well, so that 5 isn't reached", () -> x.build(10), -7);
        x.row(10, 20, 7, 13);
        due.is("4: 10 itself, so that nothing else is reached", () -> x.build(10), -10);
    }
}
