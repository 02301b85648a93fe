import java.util.Arrays;

/** Buddy memories whose splitting rule is told; ../shared/DOC.md says what each call promises. */
public final class BuddyRoof {
    private static final int CLASSES = 24;
    private static final int LEAST_SIZE = 4;
    private static final int GREATEST_SIZE = 4194304;
    private static final int MOST_BLOCKS = 256;
    private static final int MOST_KEPT = 255;
    private static final int ENTRIES = 256;

    // Sizes shrink on every way down, so no way passes a class twice.
    private static final int DEEPEST = CLASSES;

    private static final int NONE = 0;
    private static final int ROOT = 1;

    private final Rule told;
    private final Memory memory;
    private final int[] script;
    private final int[] gave;
    private boolean built;

    public BuddyRoof() {
        told = new Rule();
        memory = new Memory();
        script = new int[ENTRIES];
        gave = new int[ENTRIES];
        built = false;
    }

    public void row(int k, int size, int left, int right) throws IllegalArgumentException {
        requireClass(k);
        told.tell(k, size, left, right);
    }

    public void family(int kind, int n, int a, int b) throws IllegalArgumentException {
        if (kind < 0 || kind > 2) {
            throw new IllegalArgumentException("no such kind of family");
        }
        requireClass(n);
        if (!isSize(a) || (kind == 1 && !isSize(b))) {
            throw new IllegalArgumentException("a leaf's size is out of bounds");
        }
        if (!told.tellFamily(kind, n, a, b)) {
            throw new IllegalArgumentException("a size of the family is too great");
        }
    }

    public int build(int top) throws IllegalArgumentException {
        requireClass(top);
        int reached = told.reachedFrom(top);
        int bad = told.lowestBad(reached);
        if (bad != 0) {
            return -bad;
        }
        memory.begin(told, top, reached);
        built = true;
        return Integer.bitCount(reached);
    }

    public int give(int w) throws IllegalStateException, IllegalArgumentException {
        requireMemory();
        if (memory.isFull()) {
            throw new IllegalStateException("there are 256 blocks");
        }
        requireWords(w);
        return addressOrNone(memory.grant(w));
    }

    public void free(int address) throws IllegalStateException, IllegalArgumentException {
        memory.release(requireBlock(address));
    }

    public int change(int address, int w) throws IllegalStateException, IllegalArgumentException {
        int node = requireBlock(address);
        requireWords(w);
        if (memory.sizeOf(node) >= w) {
            memory.renew(node, w);
            return address;
        }
        if (memory.isFull()) {
            throw new IllegalStateException("there are 256 blocks");
        }
        int moved = memory.grant(w);
        if (moved != NONE) {
            memory.release(node);
        }
        return addressOrNone(moved);
    }

    public int block(int address, int what) throws IllegalStateException, IllegalArgumentException {
        int node = requireBlock(address);
        switch (what) {
            case 0:
                return memory.tree.kindOf(node);
            case 1:
                return memory.tree.requestOf(node);
            case 2:
                return memory.tree.depthOf(node);
            default:
                throw new IllegalArgumentException("no such thing is known of a block");
        }
    }

    public int path(int address, int i) throws IllegalStateException, IllegalArgumentException {
        int node = requireBlock(address);
        if (i < 0) {
            throw new IllegalArgumentException("a depth is 0 at least");
        }
        return memory.tree.sideAt(node, i);
    }

    public void keep(int k, int many) throws IllegalStateException, IllegalArgumentException {
        requireMemory();
        requireReached(k);
        if (many < 0 || many > MOST_KEPT) {
            throw new IllegalArgumentException("so many can't be kept");
        }
        memory.kept[k] = many;
    }

    public int join() throws IllegalStateException {
        requireMemory();
        return memory.uniteAll();
    }

    public int nodes(int k, int what) throws IllegalStateException, IllegalArgumentException {
        requireMemory();
        requireReached(k);
        switch (what) {
            case 0:
                return memory.freeOf[k];
            case 1:
                return addressOrNone(memory.tree.outermost(1 << k, 0));
            case 2:
                return addressOrNone(memory.tree.outermost(1 << k, 1));
            default:
                throw new IllegalArgumentException("no such thing is known of free nodes");
        }
    }

    public int leaf(int i, int what) throws IllegalStateException {
        requireMemory();
        int node = memory.tree.unsplitAt(i);
        if (node == NONE) {
            return -1;
        }
        switch (what) {
            case 0:
                return memory.tree.addressOf(node);
            case 1:
                return memory.tree.kindOf(node);
            case 2:
                return memory.tree.requestOf(node);
            default:
                return -1;
        }
    }

    public int count(int what) throws IllegalStateException {
        requireMemory();
        switch (what) {
            case 0:
                return memory.sizeOf(ROOT);
            case 1:
                return memory.requested;
            case 2:
                return memory.held - memory.requested;
            case 3:
                return memory.sizeOf(ROOT) - memory.held;
            case 4:
                return memory.blocks;
            case 5:
                return memory.tree.unsplitNodes() - memory.blocks;
            case 6:
                return memory.greatestIfJoined();
            case 7:
                return memory.joins;
            case 8:
                return memory.splits;
            case 9:
                return memory.freeNodesIfJoined();
            default:
                return -1;
        }
    }

    public int room(int w) throws IllegalStateException, IllegalArgumentException {
        requireMemory();
        requireWords(w);
        return memory.grantsLeft(w);
    }

    public void load(int i, int v) throws IllegalArgumentException {
        if (i < 0 || i >= ENTRIES) {
            throw new IllegalArgumentException("the script has entries 0 to 255");
        }
        script[i] = v;
    }

    public int replay(int n) throws IllegalStateException, IllegalArgumentException {
        requireMemory();
        if (n < 0 || n > ENTRIES) {
            throw new IllegalArgumentException("the script has 256 entries");
        }
        Arrays.fill(gave, NONE);
        for (int i = 0; i < n; i++) {
            if (!perform(i)) {
                return 1 + i;
            }
        }
        return 0;
    }

    private boolean perform(int i) {
        int v = script[i];
        if (v > 0) {
            gave[i] = memory.isFull() ? NONE : memory.grant(v);
            return gave[i] != NONE;
        }
        if (v == 0) {
            memory.uniteAll();
            return true;
        }
        return takeBack(-1 - v);
    }

    // An entry further on has given nothing yet, so its place in the row tells it, too.
    private boolean takeBack(int entry) {
        if (entry >= ENTRIES || gave[entry] == NONE) {
            return false;
        }
        memory.release(gave[entry]);
        gave[entry] = NONE;
        return true;
    }

    private int addressOrNone(int node) {
        return node == NONE ? -1 : memory.tree.addressOf(node);
    }

    private void requireMemory() {
        if (!built) {
            throw new IllegalStateException("there is no memory");
        }
    }

    private int requireBlock(int address) {
        requireMemory();
        int node = memory.tree.liveAt(address);
        if (node == NONE) {
            throw new IllegalArgumentException("no block begins there");
        }
        return node;
    }

    private void requireReached(int k) {
        if (!isClass(k) || !memory.reaches(k)) {
            throw new IllegalArgumentException("the class isn't reached");
        }
    }

    private static void requireClass(int k) {
        if (!isClass(k)) {
            throw new IllegalArgumentException("classes are 1 to 24");
        }
    }

    private static void requireWords(int w) {
        if (w < 1) {
            throw new IllegalArgumentException("a request is of 1 word at least");
        }
    }

    private static boolean isClass(int k) {
        return k >= 1 && k <= CLASSES;
    }

    private static boolean isSize(int size) {
        return size >= LEAST_SIZE && size <= GREATEST_SIZE;
    }

    /** The rows of the classes; row 0 stays 0, so that the sides of a leaf can be looked up, too. */
    private static final class Rule {
        private final int[] size = new int[CLASSES + 1];
        private final int[] left = new int[CLASSES + 1];
        private final int[] right = new int[CLASSES + 1];
        private final int[] trial = new int[CLASSES + 1];

        void tell(int k, int words, int leftClass, int rightClass) {
            size[k] = words;
            left[k] = leftClass;
            right[k] = rightClass;
        }

        void copyFrom(Rule other) {
            System.arraycopy(other.size, 0, size, 0, CLASSES + 1);
            System.arraycopy(other.left, 0, left, 0, CLASSES + 1);
            System.arraycopy(other.right, 0, right, 0, CLASSES + 1);
        }

        /** False, and nothing is told, if a size would be too great. */
        boolean tellFamily(int kind, int n, int a, int b) {
            for (int k = 1; k <= n; k++) {
                trial[k] = k <= kind + 1
                        ? leafSize(kind, k, a, b)
                        : trial[k - 1] + trial[familyRight(kind, k)];
                if (trial[k] > GREATEST_SIZE) {
                    return false;
                }
            }
            for (int k = 1; k <= CLASSES; k++) {
                if (k > n) {
                    tell(k, 0, 0, 0);
                } else if (k <= kind + 1) {
                    tell(k, trial[k], 0, 0);
                } else {
                    tell(k, trial[k], k - 1, familyRight(kind, k));
                }
            }
            return true;
        }

        // Kind 0 has one leaf, kind 1 two, kind 2 three.
        private static int leafSize(int kind, int k, int a, int b) {
            if (kind == 1) {
                return k == 1 ? a : b;
            }
            return k * a;
        }

        private static int familyRight(int kind, int k) {
            if (kind < 2) {
                return k - 1 - kind;
            }
            if (k == 4) {
                return 1;
            }
            return k % 2 == 1 ? k - 3 : k - 4;
        }

        /** The classes reached from a top class, as bits; what is bad leads no further. */
        int reachedFrom(int top) {
            int reached = 1 << top;
            int seen = 0;
            for (int step = 0; step < CLASSES && seen != reached; step++) {
                int k = Integer.numberOfTrailingZeros(reached & ~seen);
                seen |= 1 << k;
                if (!isBad(k) && left[k] != 0) {
                    reached |= 1 << left[k];
                    reached |= 1 << right[k];
                }
            }
            return reached;
        }

        /** The lowest bad class among these, 0 if there is none. */
        int lowestBad(int classes) {
            for (int k = 1; k <= CLASSES; k++) {
                if ((classes >> k & 1) == 1 && isBad(k)) {
                    return k;
                }
            }
            return 0;
        }

        private boolean isBad(int k) {
            if (!isSize(size[k])) {
                return true;
            }
            if (left[k] == 0) {
                return right[k] != 0;
            }
            if (!isClass(left[k]) || !isClass(right[k])) {
                return true;
            }
            int leftSize = size[left[k]];
            int rightSize = size[right[k]];
            // Two sizes told far below 0 would wrap round to a good sum in an int.
            return leftSize >= size[k] || rightSize >= size[k] || (long) leftSize + rightSize != size[k];
        }
    }

    /**
     * The nodes, as rows over their numbers. Buddies lie at an even number and the odd one behind it,
     * so that a number tells its side and its buddy; the top node is 1, and 0, its buddy, is none.
     */
    private static final class Tree {
        private static final int FIRST_ROOM = 64;

        // Bits 1 to 24 of a summary are the classes of the free nodes in a subtree.
        private static final int JOINABLE = 1;
        private static final int LIVE = 1 << (CLASSES + 1);

        private int[] parent = new int[FIRST_ROOM];
        private int[] child = new int[FIRST_ROOM];
        private int[] kind = new int[FIRST_ROOM];
        private int[] address = new int[FIRST_ROOM];
        private int[] request = new int[FIRST_ROOM];
        private int[] summary = new int[FIRST_ROOM];
        private int[] unsplit = new int[FIRST_ROOM];
        private int made = 0;
        private int spare = NONE;

        void begin(int top) {
            made = ROOT + 1;
            spare = NONE;
            put(ROOT, NONE, top, 0);
        }

        int made() {
            return made;
        }

        int kindOf(int node) {
            return kind[node];
        }

        int addressOf(int node) {
            return address[node];
        }

        int requestOf(int node) {
            return request[node];
        }

        int parentOf(int node) {
            return parent[node];
        }

        int buddyOf(int node) {
            return node ^ 1;
        }

        /** The left child; NONE if the node isn't split. */
        int childOf(int node) {
            return child[node];
        }

        int unsplitNodes() {
            return unsplit[ROOT];
        }

        boolean isFree(int node) {
            return node != NONE && child[node] == NONE && request[node] == 0;
        }

        boolean hasLive(int node) {
            return (summary[node] & LIVE) != 0;
        }

        boolean hasFree(int k) {
            return (summary[ROOT] >> k & 1) == 1;
        }

        int depthOf(int node) {
            int depth = 0;
            for (int n = node; n != ROOT && depth < DEEPEST; n = parent[n]) {
                depth++;
            }
            return depth;
        }

        /** The side taken at a depth on the way to a node, -1 if it doesn't lie deeper. */
        int sideAt(int node, int depth) {
            int above = depthOf(node) - 1 - depth;
            if (above < 0) {
                return -1;
            }
            int n = node;
            for (int i = 0; i < above; i++) {
                n = parent[n];
            }
            return n & 1;
        }

        int liveAt(int place) {
            int node = ROOT;
            for (int depth = 0; depth < DEEPEST && child[node] != NONE; depth++) {
                int rightChild = child[node] + 1;
                node = place < address[rightChild] ? rightChild - 1 : rightChild;
            }
            return address[node] == place && request[node] > 0 ? node : NONE;
        }

        /** The i-th node that isn't split, NONE if there is none such. */
        int unsplitAt(int i) {
            if (i < 0 || i >= unsplit[ROOT]) {
                return NONE;
            }
            int node = ROOT;
            int before = i;
            for (int depth = 0; depth < DEEPEST && child[node] != NONE; depth++) {
                node = child[node];
                if (before >= unsplit[node]) {
                    before -= unsplit[node];
                    node++;
                }
            }
            return node;
        }

        /** The free node of these classes that lies furthest to a side, NONE if there is none. */
        int outermost(int classes, int side) {
            if ((summary[ROOT] & classes) == 0) {
                return NONE;
            }
            int node = ROOT;
            for (int depth = 0; depth < DEEPEST && child[node] != NONE; depth++) {
                int near = child[node] + side;
                node = (summary[near] & classes) != 0 ? near : near ^ 1;
            }
            return node;
        }

        /** A node whose children are both free, NONE if there is none. */
        int joinable() {
            if ((summary[ROOT] & JOINABLE) == 0) {
                return NONE;
            }
            int node = ROOT;
            for (int depth = 0; depth < DEEPEST && !hasFreePair(node); depth++) {
                int leftChild = child[node];
                node = (summary[leftChild] & JOINABLE) != 0 ? leftChild : leftChild + 1;
            }
            return node;
        }

        /** The first node behind this one's whole subtree on a walk from the top, NONE at its end. */
        int behind(int node) {
            int n = node;
            for (int depth = 0; depth < DEEPEST && n != ROOT && (n & 1) == 1; depth++) {
                n = parent[n];
            }
            return n == ROOT ? NONE : n + 1;
        }

        /** The first node from this one on, on such a walk, that would be free if all was joined. */
        int wholeFrom(int node) {
            int n = node;
            for (int step = 0; step < made && n != NONE && hasLive(n); step++) {
                n = child[n] != NONE ? child[n] : behind(n);
            }
            return n;
        }

        /** Splits a free node in two free ones. What lies above is told by refreshAbove. */
        void split(int node, int leftClass, int rightClass, int leftSize) {
            if (spare == NONE && made + 2 > parent.length) {
                grow(parent.length * 2);
            }
            int pair = takePair();
            put(pair, node, leftClass, address[node]);
            put(pair + 1, node, rightClass, address[node] + leftSize);
            child[node] = pair;
        }

        /** Puts a free node in place of its two free children. */
        void unite(int node) {
            int pair = child[node];
            parent[pair] = spare;
            spare = pair;
            child[node] = NONE;
            unsplit[node] = 1;
            summary[node] = 1 << kind[node];
        }

        /** A request of 0 makes an unsplit node a free one. */
        void setRequest(int node, int words) {
            request[node] = words;
            summary[node] = words == 0 ? 1 << kind[node] : LIVE;
        }

        void refreshAbove(int node) {
            int n = parent[node];
            for (int depth = 0; depth < DEEPEST && n != NONE; depth++) {
                int leftChild = child[n];
                int both = summary[leftChild] | summary[leftChild + 1];
                summary[n] = hasFreePair(n) ? both | JOINABLE : both;
                unsplit[n] = unsplit[leftChild] + unsplit[leftChild + 1];
                n = parent[n];
            }
        }

        private boolean hasFreePair(int node) {
            return isFree(child[node]) && isFree(child[node] + 1);
        }

        private void put(int node, int above, int k, int place) {
            parent[node] = above;
            child[node] = NONE;
            kind[node] = k;
            address[node] = place;
            unsplit[node] = 1;
            setRequest(node, 0);
        }

        private int takePair() {
            int pair = spare;
            if (pair != NONE) {
                spare = parent[pair];
                return pair;
            }
            pair = made;
            made += 2;
            return pair;
        }

        private void grow(int length) {
            parent = Arrays.copyOf(parent, length);
            child = Arrays.copyOf(child, length);
            kind = Arrays.copyOf(kind, length);
            address = Arrays.copyOf(address, length);
            request = Arrays.copyOf(request, length);
            summary = Arrays.copyOf(summary, length);
            unsplit = Arrays.copyOf(unsplit, length);
        }
    }

    /** A memory with its own copy of the rule; it is begun anew by each build, so that its rows are made once. */
    private static final class Memory {
        private final Rule rule = new Rule();
        private final Tree tree = new Tree();
        private final int[] kept = new int[CLASSES + 1];
        private final int[] freeOf = new int[CLASSES + 1];
        private final int[] bySize = new int[CLASSES];
        private final int[] share = new int[CLASSES + 1];
        private int reached = 0;
        private int classes = 0;
        private int blocks = 0;
        private int requested = 0;
        private int held = 0;
        private int joins = 0;
        private int splits = 0;

        void begin(Rule told, int top, int reachedClasses) {
            rule.copyFrom(told);
            tree.begin(top);
            Arrays.fill(kept, 0);
            Arrays.fill(freeOf, 0);
            freeOf[top] = 1;
            reached = reachedClasses;
            blocks = 0;
            requested = 0;
            held = 0;
            joins = 0;
            splits = 0;
            sortBySize();
        }

        boolean reaches(int k) {
            return (reached >> k & 1) == 1;
        }

        boolean isFull() {
            return blocks >= MOST_BLOCKS;
        }

        int sizeOf(int node) {
            return rule.size[tree.kindOf(node)];
        }

        /** The node that w words are given, NONE if no free node holds them. */
        int grant(int w) {
            int node = tightest(w);
            if (node == NONE) {
                uniteAll();
                node = tightest(w);
            }
            if (node == NONE) {
                return NONE;
            }
            node = carve(node, w);
            freeOf[tree.kindOf(node)]--;
            tree.setRequest(node, w);
            tree.refreshAbove(node);
            blocks++;
            requested += w;
            held += sizeOf(node);
            return node;
        }

        void renew(int node, int w) {
            requested += w - tree.requestOf(node);
            tree.setRequest(node, w);
        }

        void release(int node) {
            blocks--;
            requested -= tree.requestOf(node);
            held -= sizeOf(node);
            tree.setRequest(node, 0);
            freeOf[tree.kindOf(node)]++;
            tree.refreshAbove(uniteUpward(node));
        }

        /** Joins all that can be joined: how many joins. */
        int uniteAll() {
            int before = joins;
            int node = tree.joinable();
            for (int left = tree.made(); left > 0 && node != NONE; left--) {
                unite(node);
                tree.refreshAbove(node);
                node = tree.joinable();
            }
            return joins - before;
        }

        int greatestIfJoined() {
            int greatest = 0;
            int node = tree.wholeFrom(ROOT);
            for (int left = tree.made(); left > 0 && node != NONE; left--) {
                greatest = Math.max(greatest, sizeOf(node));
                node = tree.wholeFrom(tree.behind(node));
            }
            return greatest;
        }

        int freeNodesIfJoined() {
            int found = 0;
            int node = tree.wholeFrom(ROOT);
            for (int left = tree.made(); left > 0 && node != NONE; left--) {
                found++;
                node = tree.wholeFrom(tree.behind(node));
            }
            return found;
        }

        /** How many times w words could be given, without the bound of blocks. */
        int grantsLeft(int w) {
            fillShares(w);
            int grants = 0;
            int node = ROOT;
            for (int left = tree.made(); left > 0 && node != NONE; left--) {
                if (tree.childOf(node) != NONE && childHolds(node, w)) {
                    node = tree.childOf(node);
                } else {
                    // A split node here has no child that holds w: once all is joined it can be given whole.
                    grants += tree.hasLive(node) ? 0 : share[tree.kindOf(node)];
                    node = tree.behind(node);
                }
            }
            return grants;
        }

        // What a node of each class yields: its children's yields, or 1 if it holds w and they don't.
        private void fillShares(int w) {
            for (int i = 0; i < classes; i++) {
                int k = bySize[i];
                share[k] = rule.size[k] < w
                        ? 0
                        : Math.max(1, share[rule.left[k]] + share[rule.right[k]]);
            }
        }

        private boolean childHolds(int node, int w) {
            int k = tree.kindOf(node);
            return rule.size[rule.left[k]] >= w || rule.size[rule.right[k]] >= w;
        }

        private void sortBySize() {
            classes = 0;
            for (int k = 1; k <= CLASSES; k++) {
                if (reaches(k)) {
                    int at = classes;
                    for (; at > 0 && rule.size[bySize[at - 1]] > rule.size[k]; at--) {
                        bySize[at] = bySize[at - 1];
                    }
                    bySize[at] = k;
                    classes++;
                }
            }
        }

        /** The lowest of the smallest free nodes that hold w; classes may be alike in size. */
        private int tightest(int w) {
            int alike = 0;
            int size = 0;
            for (int i = 0; i < classes; i++) {
                int k = bySize[i];
                if (rule.size[k] >= w && tree.hasFree(k)) {
                    if (alike != 0 && rule.size[k] != size) {
                        break;
                    }
                    size = rule.size[k];
                    alike |= 1 << k;
                }
            }
            return tree.outermost(alike, 0);
        }

        /** Splits a free node as long as a child holds w: the last child. */
        private int carve(int node, int w) {
            int n = node;
            for (int depth = 0; depth < DEEPEST && childHolds(n, w); depth++) {
                int k = tree.kindOf(n);
                int leftClass = rule.left[k];
                int rightClass = rule.right[k];
                int leftSize = rule.size[leftClass];
                int rightSize = rule.size[rightClass];
                tree.split(n, leftClass, rightClass, leftSize);
                freeOf[k]--;
                freeOf[leftClass]++;
                freeOf[rightClass]++;
                splits++;
                boolean goLeft = leftSize >= w && (rightSize < w || leftSize <= rightSize);
                n = goLeft ? tree.childOf(n) : tree.childOf(n) + 1;
            }
            return n;
        }

        /** Joins a node just freed with its buddy, and so on, as far as no more are to be kept: the last node. */
        private int uniteUpward(int node) {
            int n = node;
            for (int depth = 0; depth < DEEPEST && isTooMany(tree.kindOf(n)); depth++) {
                if (!tree.isFree(tree.buddyOf(n))) {
                    break;
                }
                n = tree.parentOf(n);
                unite(n);
            }
            return n;
        }

        private boolean isTooMany(int k) {
            return freeOf[k] > kept[k];
        }

        private void unite(int node) {
            int pair = tree.childOf(node);
            freeOf[tree.kindOf(pair)]--;
            freeOf[tree.kindOf(pair + 1)]--;
            freeOf[tree.kindOf(node)]++;
            tree.unite(node);
            joins++;
        }
    }
}
