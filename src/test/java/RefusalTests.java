/**
 * "Of several exceptions that apply the first one listed is thrown, and nothing changes": each call that is refused,
 * made on an object in use, which must go on as one on which it was never made.
 */
public final class RefusalTests {
    private interface Use {
        void of(Roof x);
    }

    private static final int MOST = Roof.MOST_WORDS;
    private static final int LEAST = Roof.LEAST;
    private static final int GREATEST = Roof.GREATEST;
    private static final Due due = new Due("RefusalTests");

    public static void main(String[] args) {
        untouched();
        rules();
        givesAndFrees();
        changes();
        looks();
        keeps();
        scripts();
        withoutAMemory();
        with256Blocks();
        due.close();
    }

    /** Two free nodes that are kept apart, four blocks, another rule told, and a script. */
    private static Roof busy() {
        Roof x = Roof.halves(5, 4);
        x.keep(1, 2);
        x.keep(2, 1);
        x.giveTimes(4, 4);
        x.give(7);
        x.freeAll(0, 4);
        x.loadAll(3, -1, 20);
        x.load(255, 2);
        x.family(1, 4, 5, 6);
        x.row(24, 9, 0, 0);
        return x;
    }

    /** All that can be seen of an object, and how it goes on: its memory, what is kept, its script and its rule. */
    private static String story(Roof x) {
        StringBuilder text = new StringBuilder();
        text.append(x.counts()).append(" | ").append(x.picture());
        x.give(1);
        x.free(0);
        text.append(" | ").append(x.picture());
        x.freeAll(8, 12);
        text.append(" | ").append(x.picture());
        text.append(" | ").append(x.replay(3)).append(' ').append(x.picture());
        x.free(32);
        text.append(" | ").append(x.replay(256)).append(' ').append(x.picture());
        for (int k = 1; k <= 24; k++) {
            text.append(k == 1 ? " | " : " ").append(x.build(k));
        }
        text.append(" | ").append(x.build(4)).append(' ').append(x.give(6)).append(' ').append(x.picture());
        text.append(" | ").append(x.build(24)).append(' ').append(x.count(0));
        return text.toString();
    }

    private static void untouched() {
        due.same("an object on which nothing was refused", story(busy()),
                "64 15 1 48 3 4 32 0 6 3 | 0:1 4:1 8:1=4 12:1=4 16:2=7 24:2 32:4"
                + " | 0:1 4:1 8:1=4 12:1=4 16:2=7 24:2 32:4"
                + " | 0:1 4:1 8:2 16:2=7 24:2 32:4"
                + " | 0 0:1 4:1 8:2 16:2=7 24:2 32:4=20"
                + " | 0 0:3 16:2=7 24:1=2 28:1 32:4=20"
                + " | 1 1 3 4 -5 -6 -7 -8 -9 -10 -11 -12 -13 -14 -15 -16 -17 -18 -19 -20 -21 -22 -23 1"
                + " | 4 11 0:3 11:2=6 | 1 9");
    }

    private static void refused(String what, Use call) {
        Roof x = busy();
        due.noArgument(what, () -> call.of(x));
        due.same(what + ", and how it goes on", story(x), story(busy()));
    }

    private static void rules() {
        for (int k : new int[] {LEAST, -1, 0, 25, GREATEST}) {
            refused("2: row " + k, x -> x.row(k, 4, 0, 0));
            refused("4: build " + k, x -> x.build(k));
            refused("3: n " + k, x -> x.family(0, k, 4, 4));
        }
        for (int kind : new int[] {LEAST, -1, 3, GREATEST}) {
            refused("3: kind " + kind, x -> x.family(kind, 4, 4, 4));
            refused("3: all of it is wrong, kind " + kind, x -> x.family(kind, 0, 0, 0));
        }
        for (int a : new int[] {LEAST, 3, MOST + 1, GREATEST}) {
            refused("3: halves of " + a, x -> x.family(0, 4, a, 4));
            refused("3: neighbours of " + a, x -> x.family(1, 4, a, 4));
            refused("3: neighbours with " + a, x -> x.family(1, 4, 4, a));
            refused("3: weighted ones of " + a, x -> x.family(2, 4, a, 4));
        }
        refused("3: too great a half, the last of all", x -> x.family(0, 22, 4, 0));
        refused("3: too great a neighbour, the last of all", x -> x.family(1, 24, 4, 144));
        refused("3: too great a weighted one, the last of all", x -> x.family(2, 24, 1025, 0));
    }

    private static void givesAndFrees() {
        for (int w : new int[] {LEAST, -1, 0}) {
            refused("5: give " + w, x -> x.give(w));
            refused("15: room " + w, x -> x.room(w));
        }
        for (int address : new int[] {LEAST, -1, 0, 1, 4, 24, 32, 64, GREATEST}) {
            refused("6: free at " + address, x -> x.free(address));
        }
    }

    private static void changes() {
        for (int address : new int[] {LEAST, -1, 0, 4, 24, 64, GREATEST}) {
            refused("7: one word at " + address, x -> x.change(address, 1));
            refused("7: more than is there at " + address, x -> x.change(address, GREATEST));
        }
        for (int w : new int[] {LEAST, -1, 0}) {
            refused("7: " + w + " words", x -> x.change(8, w));
            refused("7: " + w + " words of no block", x -> x.change(0, w));
        }
    }

    private static void looks() {
        for (int what : new int[] {LEAST, -1, 3, GREATEST}) {
            refused("8: block, what " + what, x -> x.block(8, what));
            refused("8: no block, what " + what, x -> x.block(0, what));
            refused("12: nodes, what " + what, x -> x.nodes(1, what));
        }
        refused("8: no block", x -> x.block(4, 0));
        refused("9: no block", x -> x.path(4, 0));
        refused("9: a depth of -1", x -> x.path(8, -1));
        refused("9: the least depth", x -> x.path(8, LEAST));
        for (int k : new int[] {LEAST, -1, 0, 6, 24, 25, GREATEST}) {
            refused("12: nodes of " + k, x -> x.nodes(k, 0));
        }
    }

    private static void keeps() {
        for (int k : new int[] {LEAST, -1, 0, 6, 24, 25, GREATEST}) {
            refused("10: keep of " + k, x -> x.keep(k, 0));
        }
        for (int many : new int[] {LEAST, -1, 256, GREATEST}) {
            refused("10: keep " + many, x -> x.keep(1, many));
            refused("10: keep " + many + " of the next", x -> x.keep(2, many));
        }
    }

    private static void scripts() {
        for (int i : new int[] {LEAST, -1, 256, GREATEST}) {
            refused("16: load " + i, x -> x.load(i, 1));
        }
        for (int n : new int[] {LEAST, -1, 257, GREATEST}) {
            refused("17: replay " + n, x -> x.replay(n));
        }
    }

    private static Roof ruleAlone() {
        Roof x = new Roof();
        x.family(0, 3, 4, 0);
        x.loadAll(5);
        return x;
    }

    private static String begun(Roof x) {
        return Due.answer(() -> x.count(0)) + ' ' + x.build(3) + ' ' + x.build(4) + ' ' + x.replay(1) + ' '
                + x.picture() + ' ' + x.counts();
    }

    private static void noMemory(String what, Use call) {
        Roof x = ruleAlone();
        due.noState(what, () -> call.of(x));
        due.same(what + ", and how it begins", begun(x),
                "throws.IllegalStateException 3 -4 0 0:2=5 8:2 16 5 3 8 1 1 8 0 1 1");
    }

    // Without a memory that is what is said, whatever else is wrong with the call.
    private static void withoutAMemory() {
        for (int odd : new int[] {LEAST, -1, 0, 1, 3, 256, 257, GREATEST}) {
            noMemory("5: give " + odd, x -> x.give(odd));
            noMemory("6: free " + odd, x -> x.free(odd));
            noMemory("7: change " + odd, x -> x.change(odd, 1));
            noMemory("7: change to " + odd, x -> x.change(0, odd));
            noMemory("8: block " + odd, x -> x.block(odd, 0));
            noMemory("8: block, what " + odd, x -> x.block(0, odd));
            noMemory("9: path " + odd, x -> x.path(odd, 0));
            noMemory("9: path at " + odd, x -> x.path(0, odd));
            noMemory("10: keep of " + odd, x -> x.keep(odd, 0));
            noMemory("10: keep " + odd, x -> x.keep(1, odd));
            noMemory("11: join", x -> x.join());
            noMemory("12: nodes of " + odd, x -> x.nodes(odd, 0));
            noMemory("12: nodes, what " + odd, x -> x.nodes(1, odd));
            noMemory("13: leaf " + odd, x -> x.leaf(odd, 0));
            noMemory("13: leaf, what " + odd, x -> x.leaf(0, odd));
            noMemory("14: count " + odd, x -> x.count(odd));
            noMemory("15: room " + odd, x -> x.room(odd));
            noMemory("17: replay " + odd, x -> x.replay(odd));
        }
    }

    /** 256 blocks of class 3, and before them two free nodes of class 2 that are kept apart. */
    private static Roof full() {
        Roof x = Roof.halves(12, 4);
        x.keep(2, 255);
        x.giveTimes(2, 8);
        x.freeAll(0, 8);
        x.giveByScript(64, 4, 9);
        return x;
    }

    private static String fullStory(Roof x) {
        StringBuilder text = new StringBuilder(x.counts());
        for (int i = 0; i < 4; i++) {
            text.append(" | ").append(x.leaf(i, 0)).append(':').append(x.leaf(i, 1)).append('=').append(x.leaf(i, 2));
        }
        text.append(" | ").append(x.nodes(2, 0)).append(' ').append(x.block(4096, 0)).append(' ');
        text.append(x.block(4096, 1)).append(' ').append(x.block(4096, 2));
        x.free(4096);
        text.append(" | ").append(x.give(16)).append(' ').append(x.counts());
        return text.toString();
    }

    private static void refusedWhenFull(String what, String thrown, Use call) {
        Roof x = full();
        due.same(what, Due.outcome(() -> call.of(x)), "throws." + thrown);
        due.same(what + ", and how it goes on", fullStory(x),
                "8192 2304 1792 4096 256 10 2048 0 265 9 | 0:2=0 | 8:2=0 | 16:3=9 | 32:3=9 | 2 3 9 9"
                + " | 4096 8192 2311 1785 4096 256 10 2048 8 273 9");
    }

    private static void with256Blocks() {
        String state = "IllegalStateException";
        String argument = "IllegalArgumentException";
        for (int w : new int[] {LEAST, -1, 0, 1, 8, 9, 17, MOST + 1, GREATEST}) {
            refusedWhenFull("5: give " + w, state, x -> x.give(w));
        }
        for (int w : new int[] {17, 2048, 4097, MOST + 1, GREATEST}) {
            refusedWhenFull("7: change to " + w, state, x -> x.change(4096, w));
            refusedWhenFull("7: change to " + w + " of no block", argument, x -> x.change(8, w));
        }
        for (int w : new int[] {LEAST, -1, 0}) {
            refusedWhenFull("7: change to " + w, argument, x -> x.change(4096, w));
            refusedWhenFull("7: change to " + w + " of no block", argument, x -> x.change(8, w));
            refusedWhenFull("15: room " + w, argument, x -> x.room(w));
        }
        refusedWhenFull("6: free of no block", argument, x -> x.free(8));
        refusedWhenFull("17: replay 257", argument, x -> x.replay(257));
    }
}
