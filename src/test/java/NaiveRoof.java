import java.util.ArrayList;
import java.util.List;

/** The document's words taken as they stand, without regard to speed: what BuddyRoof is compared with. */
final class NaiveRoof {
    private static final class Node {
        int kind;
        int address;
        int depth;
        boolean live;
        int request;
        Node parent;
        Node left;
        Node right;

        Node(int kind, int address, Node parent) {
            this.kind = kind;
            this.address = address;
            this.parent = parent;
            this.depth = parent == null ? 0 : parent.depth + 1;
        }

        boolean isSplit() {
            return left != null;
        }

        boolean isFree() {
            return !live && !isSplit();
        }

        Node buddy() {
            return parent == null ? null : parent.left == this ? parent.right : parent.left;
        }
    }

    private int[][] told = new int[25][3];
    private int[][] rows;
    private boolean[] reached;
    private Node top;
    private int[] kept;
    private int joins;
    private int splits;
    private final int[] script = new int[256];

    private static void argument(boolean good) {
        if (!good) {
            throw new IllegalArgumentException();
        }
    }

    private static void state(boolean good) {
        if (!good) {
            throw new IllegalStateException();
        }
    }

    private static int[][] copyOf(int[][] table) {
        int[][] copy = new int[table.length][];
        for (int k = 0; k < table.length; k++) {
            copy[k] = table[k].clone();
        }
        return copy;
    }

    void row(int k, int size, int left, int right) {
        argument(k >= 1 && k <= 24);
        told[k] = new int[] {size, left, right};
    }

    void family(int kind, int n, int a, int b) {
        argument(kind >= 0 && kind <= 2 && n >= 1 && n <= 24);
        argument(a >= 4 && a <= 4194304 && (kind != 1 || b >= 4 && b <= 4194304));
        int[][] table = new int[25][3];
        for (int k = 1; k <= n; k++) {
            int[] sides = sides(kind, k);
            int leaf = kind == 1 ? (k == 1 ? a : b) : k * a;
            int size = sides[0] == 0 ? leaf : table[sides[0]][0] + table[sides[1]][0];
            argument(size <= 4194304);
            table[k] = new int[] {size, sides[0], sides[1]};
        }
        told = table;
    }

    private static int[] sides(int kind, int k) {
        if (kind == 0) {
            return k == 1 ? new int[2] : new int[] {k - 1, k - 1};
        }
        if (kind == 1) {
            return k <= 2 ? new int[2] : new int[] {k - 1, k - 2};
        }
        if (k <= 3) {
            return new int[2];
        }
        if (k == 4) {
            return new int[] {3, 1};
        }
        return k % 2 != 0 ? new int[] {k - 1, k - 3} : new int[] {k - 1, k - 4};
    }

    private boolean isBad(int k) {
        long size = told[k][0];
        int left = told[k][1];
        int right = told[k][2];
        if (size < 4 || size > 4194304) {
            return true;
        }
        if (left == 0) {
            return right != 0;
        }
        if (left < 1 || left > 24 || right < 1 || right > 24) {
            return true;
        }
        long leftSize = told[left][0];
        long rightSize = told[right][0];
        return leftSize >= size || rightSize >= size || leftSize + rightSize != size;
    }

    private void reach(int k, boolean[] seen) {
        if (!seen[k]) {
            seen[k] = true;
            if (!isBad(k) && told[k][1] != 0) {
                reach(told[k][1], seen);
                reach(told[k][2], seen);
            }
        }
    }

    int build(int k) {
        argument(k >= 1 && k <= 24);
        boolean[] seen = new boolean[25];
        reach(k, seen);
        int many = 0;
        for (int c = 1; c <= 24; c++) {
            if (seen[c] && isBad(c)) {
                return -c;
            }
            many += seen[c] ? 1 : 0;
        }
        reached = seen;
        rows = copyOf(told);
        top = new Node(k, 0, null);
        kept = new int[25];
        joins = 0;
        splits = 0;
        return many;
    }

    private int size(Node node) {
        return rows[node.kind][0];
    }

    private static void collect(Node node, List<Node> into) {
        if (node.isSplit()) {
            collect(node.left, into);
            collect(node.right, into);
        } else {
            into.add(node);
        }
    }

    private List<Node> unsplit() {
        List<Node> all = new ArrayList<>();
        collect(top, all);
        return all;
    }

    private int blocks() {
        int many = 0;
        for (Node node : unsplit()) {
            many += node.live ? 1 : 0;
        }
        return many;
    }

    private int freeOf(int k) {
        int many = 0;
        for (Node node : unsplit()) {
            many += node.isFree() && node.kind == k ? 1 : 0;
        }
        return many;
    }

    private void joinAt(Node parent) {
        parent.left = null;
        parent.right = null;
        parent.live = false;
        parent.request = 0;
        joins++;
    }

    private int joinAll() {
        int many = 0;
        boolean again = true;
        while (again) {
            again = false;
            for (Node node : unsplit()) {
                Node parent = node.parent;
                if (node.isFree() && parent != null && parent.isSplit() && node.buddy().isFree()) {
                    joinAt(parent);
                    many++;
                    again = true;
                }
            }
        }
        return many;
    }

    private Node tightest(int w) {
        Node best = null;
        for (Node node : unsplit()) {
            if (node.isFree() && size(node) >= w && (best == null || size(node) < size(best))) {
                best = node;
            }
        }
        return best;
    }

    private Node grant(int w) {
        Node node = tightest(w);
        if (node == null) {
            joinAll();
            node = tightest(w);
        }
        if (node == null) {
            return null;
        }
        while (rows[node.kind][1] != 0) {
            Node left = new Node(rows[node.kind][1], node.address, node);
            Node right = new Node(rows[node.kind][2], node.address + rows[left.kind][0], node);
            boolean leftHolds = size(left) >= w;
            boolean rightHolds = size(right) >= w;
            if (!leftHolds && !rightHolds) {
                break;
            }
            node.left = left;
            node.right = right;
            splits++;
            if (leftHolds && rightHolds) {
                node = size(right) < size(left) ? right : left;
            } else {
                node = leftHolds ? left : right;
            }
        }
        node.live = true;
        node.request = w;
        return node;
    }

    private void release(Node block) {
        block.live = false;
        block.request = 0;
        Node node = block;
        while (freeOf(node.kind) > kept[node.kind] && node.buddy() != null && node.buddy().isFree()) {
            node = node.parent;
            joinAt(node);
        }
    }

    private Node blockAt(int address) {
        for (Node node : unsplit()) {
            if (node.live && node.address == address) {
                return node;
            }
        }
        return null;
    }

    int give(int w) {
        state(top != null && blocks() < 256);
        argument(w >= 1);
        Node node = grant(w);
        return node == null ? -1 : node.address;
    }

    void free(int address) {
        state(top != null);
        Node node = blockAt(address);
        argument(node != null);
        release(node);
    }

    int change(int address, int w) {
        state(top != null);
        Node node = blockAt(address);
        state(node == null || size(node) >= w || blocks() < 256);
        argument(node != null && w >= 1);
        if (size(node) >= w) {
            node.request = w;
            return address;
        }
        Node moved = grant(w);
        if (moved == null) {
            return -1;
        }
        release(node);
        return moved.address;
    }

    int block(int address, int what) {
        state(top != null);
        Node node = blockAt(address);
        argument(node != null && what >= 0 && what <= 2);
        return what == 0 ? node.kind : what == 1 ? node.request : node.depth;
    }

    int path(int address, int i) {
        state(top != null);
        Node node = blockAt(address);
        argument(node != null && i >= 0);
        while (node.depth > 0) {
            if (node.depth - 1 == i) {
                return node.parent.left == node ? 0 : 1;
            }
            node = node.parent;
        }
        return -1;
    }

    void keep(int k, int many) {
        state(top != null);
        argument(k >= 1 && k <= 24 && reached[k] && many >= 0 && many <= 255);
        kept[k] = many;
    }

    int join() {
        state(top != null);
        return joinAll();
    }

    int nodes(int k, int what) {
        state(top != null);
        argument(k >= 1 && k <= 24 && reached[k] && what >= 0 && what <= 2);
        if (what == 0) {
            return freeOf(k);
        }
        int answer = -1;
        for (Node node : unsplit()) {
            if (node.isFree() && node.kind == k && (what == 2 || answer < 0)) {
                answer = node.address;
            }
        }
        return answer;
    }

    int leaf(int i, int what) {
        state(top != null);
        List<Node> all = unsplit();
        if (i < 0 || i >= all.size() || what < 0 || what > 2) {
            return -1;
        }
        Node node = all.get(i);
        return what == 0 ? node.address : what == 1 ? node.kind : node.request;
    }

    int count(int what) {
        state(top != null);
        NaiveRoof joined = copy();
        joined.joinAll();
        int requests = 0;
        int waste = 0;
        int freeWords = 0;
        int greatest = 0;
        for (Node node : unsplit()) {
            requests += node.request;
            waste += node.live ? size(node) - node.request : 0;
            freeWords += node.isFree() ? size(node) : 0;
        }
        for (Node node : joined.unsplit()) {
            greatest = node.isFree() ? Math.max(greatest, size(node)) : greatest;
        }
        int[] answers = {size(top), requests, waste, freeWords, blocks(), unsplit().size() - blocks(), greatest,
            joins, splits, joined.unsplit().size() - joined.blocks()};
        return what < 0 || what >= answers.length ? -1 : answers[what];
    }

    int room(int w) {
        state(top != null);
        argument(w >= 1);
        NaiveRoof trial = copy();
        int many = 0;
        while (trial.grant(w) != null) {
            many++;
        }
        return many;
    }

    private NaiveRoof copy() {
        NaiveRoof other = new NaiveRoof();
        other.rows = copyOf(rows);
        other.kept = kept.clone();
        other.top = copy(top, null);
        return other;
    }

    private static Node copy(Node node, Node parent) {
        Node other = new Node(node.kind, node.address, parent);
        other.live = node.live;
        other.request = node.request;
        if (node.isSplit()) {
            other.left = copy(node.left, other);
            other.right = copy(node.right, other);
        }
        return other;
    }

    void load(int i, int v) {
        argument(i >= 0 && i <= 255);
        script[i] = v;
    }

    int replay(int n) {
        state(top != null);
        argument(n >= 0 && n <= 256);
        Node[] gave = new Node[256];
        for (int i = 0; i < n; i++) {
            int v = script[i];
            if (v > 0) {
                gave[i] = blocks() < 256 ? grant(v) : null;
                if (gave[i] == null) {
                    return 1 + i;
                }
            } else if (v == 0) {
                joinAll();
            } else {
                long entry = -1L - v;
                if (entry > 255 || gave[(int) entry] == null) {
                    return 1 + i;
                }
                release(gave[(int) entry]);
                gave[(int) entry] = null;
            }
        }
        return 0;
    }
}
