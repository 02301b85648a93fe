import java.util.Random;

/** Runs of 512 calls, made from fixed seeds, whose every answer is compared with NaiveRoof's. */
public final class ModelTests {
    // The dearest step, an odd call or rows told anew, and then a look at all.
    private static final int CALLS_OF_A_STEP = 26;
    private static final int CALLS_OF_A_LOOK = 100;
    private static final Due due = new Due("ModelTests");

    private final Random dice;
    private final String title;
    private final Roof real = new Roof();
    private final NaiveRoof naive = new NaiveRoof();
    private final boolean great;
    private int words = 64;
    private int likelyTop = 1;

    private ModelTests(long seed) {
        dice = new Random(seed);
        title = "seed " + seed;
        great = seed % 4 == 0;
    }

    public static void main(String[] args) {
        int seeds = args.length > 0 ? Integer.parseInt(args[0]) : 2400;
        for (int seed = 1; seed <= seeds; seed++) {
            new ModelTests(seed).play();
        }
        due.close();
    }

    private void play() {
        tellRule();
        build(someTop());
        if (dice.nextInt(4) == 0) {
            playScript(dice.nextInt(257));
        }
        while (real.callsLeft() > CALLS_OF_A_STEP + CALLS_OF_A_LOOK) {
            int what = dice.nextInt(200);
            if (what == 0) {
                tellRule();
            } else if (what == 1) {
                build(someTop());
            } else if (what == 2) {
                oddCalls();
            } else if (what < 6) {
                playScript(dice.nextInt(CALLS_OF_A_STEP));
            } else {
                use(what);
            }
        }
        lookAtAll();
    }

    private void both(String call, Due.Asking got, Due.Asking want) {
        due.same(title + ": " + call, Due.answer(got), Due.answer(want));
    }

    private void bothDo(String call, Due.Telling got, Due.Telling want) {
        due.same(title + ": " + call, Due.outcome(got), Due.outcome(want));
    }

    private void tellRule() {
        if (dice.nextInt(3) == 0) {
            tellRows();
            return;
        }
        int kind = dice.nextInt(3);
        int most = kind == 0 ? (great ? 20 : 9) : great ? 24 : kind == 1 ? 13 : 18;
        int n = most - dice.nextInt(great ? 6 : most);
        int a = 4 + dice.nextInt(9);
        int b = 4 + dice.nextInt(9);
        likelyTop = n;
        bothDo("family(" + kind + ", " + n + ", " + a + ", " + b + ")",
                () -> real.family(kind, n, a, b), () -> naive.family(kind, n, a, b));
    }

    private void tellRows() {
        int[] order = new int[25];
        for (int k = 1; k <= 24; k++) {
            order[k] = k;
        }
        for (int k = 24; k > 1; k--) {
            int other = 1 + dice.nextInt(k);
            int kept = order[k];
            order[k] = order[other];
            order[other] = kept;
        }
        int[] size = new int[25];
        int leaves = 1 + dice.nextInt(6);
        for (int i = 1; i <= 24; i++) {
            int left = i <= leaves ? 0 : order[Math.max(1, i - 1 - dice.nextInt(5))];
            int right = i <= leaves ? 0 : order[1 + dice.nextInt(i - 1)];
            int k = order[i];
            size[k] = left == 0 ? 4 + dice.nextInt(8) : size[left] + size[right];
            if (size[k] > (great ? Roof.MOST_WORDS : 4000)) {
                left = 0;
                right = 0;
                size[k] = 5;
            }
            if (dice.nextInt(150) == 0) {
                size[k] += dice.nextInt(5) - 2;
            }
            tellRow(k, size[k], left, right);
        }
        likelyTop = order[20 + dice.nextInt(5)];
    }

    private int someTop() {
        return dice.nextInt(8) == 0 ? 1 + dice.nextInt(24) : likelyTop;
    }

    private int someClass() {
        int at = dice.nextInt(20);
        String met = Due.answer(() -> naive.leaf(at, 1));
        return dice.nextInt(4) == 0 || met.startsWith("throws") || met.equals("-1")
                ? 1 + dice.nextInt(24) : Integer.parseInt(met);
    }

    private void tellRow(int k, int size, int left, int right) {
        bothDo("row(" + k + ", " + size + ", " + left + ", " + right + ")",
                () -> real.row(k, size, left, right), () -> naive.row(k, size, left, right));
    }

    private void build(int top) {
        both("build(" + top + ")", () -> real.build(top), () -> naive.build(top));
        String total = Due.answer(() -> naive.count(0));
        words = total.startsWith("throws") ? 64 : Integer.parseInt(total);
    }

    private int someWords() {
        return switch (dice.nextInt(8)) {
            case 0 -> 1 + dice.nextInt(words + 2);
            case 1, 2 -> 1 + dice.nextInt(words / 4 + 1);
            default -> 1 + dice.nextInt(Math.min(words, 24) + 1);
        };
    }

    // NaiveRoof gives the words one by one, so they must not be too few for a great memory.
    private int roomy(int w) {
        return w < 1 || w > words ? w : w + words / 1024;
    }

    private int someAddress() {
        String many = Due.answer(() -> naive.count(4));
        String all = Due.answer(() -> naive.count(5));
        if (many.startsWith("throws") || dice.nextInt(20) == 0) {
            return dice.nextInt(words + 8) - 4;
        }
        int unsplit = Integer.parseInt(many) + Integer.parseInt(all);
        int from = dice.nextInt(unsplit);
        for (int i = 0; i < unsplit; i++) {
            int at = (from + i) % unsplit;
            if (naive.leaf(at, 2) > 0) {
                return naive.leaf(at, 0);
            }
        }
        return 0;
    }

    private void use(int what) {
        int w = someWords();
        int k = someClass();
        int which = dice.nextInt(5) - 1;
        if (what < 70) {
            both("give(" + w + ")", () -> real.give(w), () -> naive.give(w));
        } else if (what < 110) {
            int address = someAddress();
            bothDo("free(" + address + ")", () -> real.free(address), () -> naive.free(address));
        } else if (what < 125) {
            int address = someAddress();
            both("change(" + address + ", " + w + ")", () -> real.change(address, w), () -> naive.change(address, w));
        } else if (what < 135) {
            int address = someAddress();
            both("block(" + address + ", " + which + ")",
                    () -> real.block(address, which), () -> naive.block(address, which));
        } else if (what < 145) {
            int address = someAddress();
            int i = dice.nextInt(great ? 25 : 10) - 1;
            both("path(" + address + ", " + i + ")", () -> real.path(address, i), () -> naive.path(address, i));
        } else if (what < 153) {
            int many = dice.nextInt(4) == 0 ? dice.nextInt(258) - 1 : dice.nextInt(6);
            bothDo("keep(" + k + ", " + many + ")", () -> real.keep(k, many), () -> naive.keep(k, many));
        } else if (what < 156) {
            both("join()", () -> real.join(), () -> naive.join());
        } else if (what < 166) {
            both("nodes(" + k + ", " + which + ")", () -> real.nodes(k, which), () -> naive.nodes(k, which));
        } else if (what < 176) {
            int i = dice.nextInt(30) - 1;
            both("leaf(" + i + ", " + which + ")", () -> real.leaf(i, which), () -> naive.leaf(i, which));
        } else if (what < 190) {
            int number = dice.nextInt(12) - 1;
            both("count(" + number + ")", () -> real.count(number), () -> naive.count(number));
        } else {
            int r = roomy(w);
            both("room(" + r + ")", () -> real.room(r), () -> naive.room(r));
        }
    }

    private void oddCalls() {
        int[] odd = {Integer.MIN_VALUE, Integer.MAX_VALUE, -1, 0, 25, 32, 33, 256, 257};
        int a = odd[dice.nextInt(odd.length)];
        int b = odd[dice.nextInt(odd.length)];
        both("give(" + a + ")", () -> real.give(a), () -> naive.give(a));
        bothDo("free(" + a + ")", () -> real.free(a), () -> naive.free(a));
        both("change(" + a + ", " + b + ")", () -> real.change(a, b), () -> naive.change(a, b));
        both("block(" + a + ", " + b + ")", () -> real.block(a, b), () -> naive.block(a, b));
        both("path(" + a + ", " + b + ")", () -> real.path(a, b), () -> naive.path(a, b));
        bothDo("keep(" + a + ", " + b + ")", () -> real.keep(a, b), () -> naive.keep(a, b));
        both("nodes(" + a + ", " + b + ")", () -> real.nodes(a, b), () -> naive.nodes(a, b));
        both("leaf(" + a + ", " + b + ")", () -> real.leaf(a, b), () -> naive.leaf(a, b));
        both("count(" + a + ")", () -> real.count(a), () -> naive.count(a));
        int r = roomy(a);
        both("room(" + r + ")", () -> real.room(r), () -> naive.room(r));
        bothDo("load(" + a + ", " + b + ")", () -> real.load(a, b), () -> naive.load(a, b));
        both("replay(" + a + ")", () -> real.replay(a), () -> naive.replay(a));
        both("build(" + a + ")", () -> real.build(a), () -> naive.build(a));
        bothDo("family(" + a + ", " + b + ", " + a + ", " + b + ")",
                () -> real.family(a, b, a, b), () -> naive.family(a, b, a, b));
        tellRow(a, b, a, b);
    }

    private void playScript(int n) {
        boolean filling = dice.nextBoolean();
        for (int i = 0; i < n; i++) {
            int entry = i;
            int choice = dice.nextInt(filling ? 60 : 10);
            int v = choice == 0 ? 0 : choice < 5 && i > 0 ? -1 - dice.nextInt(i) : 1 + dice.nextInt(filling ? 6 : 20);
            bothDo("load(" + i + ", " + v + ")", () -> real.load(entry, v), () -> naive.load(entry, v));
        }
        both("replay(" + n + ")", () -> real.replay(n), () -> naive.replay(n));
    }

    private void lookAtAll() {
        for (int what = 0; what < 10; what++) {
            int number = what;
            both("count(" + what + ")", () -> real.count(number), () -> naive.count(number));
        }
        for (int k = 1; k <= 24; k++) {
            int of = k;
            int what = k % 3;
            both("nodes(" + k + ", " + what + ")", () -> real.nodes(of, what), () -> naive.nodes(of, what));
        }
        for (int bits = 0; bits < 8; bits++) {
            int w = roomy(1 << bits);
            both("room(" + w + ")", () -> real.room(w), () -> naive.room(w));
        }
        for (int i = 0; real.callsLeft() >= 3; i++) {
            int at = i;
            for (int what = 0; what < 3; what++) {
                int which = what;
                both("leaf(" + i + ", " + what + ")", () -> real.leaf(at, which), () -> naive.leaf(at, which));
            }
        }
    }
}
