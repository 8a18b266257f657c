/**
 * Heaps of ints that are melded, all in one row of cells.
 *
 * <p>Each heap is a skew binomial forest: at most one tree of each rank, but for a twin that the
 * lowest rank may have. A new key joins the two twins under itself, or stands alone, so adding never
 * carries from rank to rank and its steps do not grow with the heap.
 */
public final class SkewMelds {
    public static final int NONE = -1;

    private static final int FULL = -2;
    private static final long NO_KEY = Long.MIN_VALUE;
    private static final int NIL = -1;

    private static final int HEAPS = 8;
    private static final int CELLS = 200;
    // A tree of rank r has 2 to the r keys or more, so 200 cells never hold one of rank 8.
    private static final int RANKS = 8;

    // Where the parts of the row begin: five that are told by the cell, three by the heap.
    private static final int KEY = 0;
    private static final int RANK = KEY + CELLS;
    private static final int CHILD = RANK + CELLS;
    private static final int NEXT = CHILD + CELLS;
    private static final int LIST = NEXT + CELLS;
    private static final int TOP = LIST + CELLS;
    private static final int TWIN = TOP + HEAPS * RANKS;
    private static final int SIZE = TWIN + HEAPS;
    private static final int ROW_LENGTH = SIZE + HEAPS;

    private static final int ADD_LIMIT = 100;
    private static final int LIMIT_UNIT = 200;
    private static final int UNLIMITED = Integer.MAX_VALUE;
    private static final int INT_BITS = 32;

    private final int[] row;
    private int heaps;
    private int unused;
    private int firstUnused;
    private int steps;
    private int limit;

    public SkewMelds() {
        row = new int[ROW_LENGTH];
        for (int at = TOP; at < SIZE; at++) {
            write(at, NIL);
        }
        firstUnused = NIL;
        for (int cell = CELLS - 1; cell >= 0; cell--) {
            giveBack(cell);
        }
        begin(UNLIMITED);
    }

    public int heap() {
        begin(UNLIMITED);
        if (heaps >= HEAPS) {
            return NONE;
        }
        heaps++;
        return heaps - 1;
    }

    public int add(int heap, int key) {
        begin(ADD_LIMIT);
        if (!exists(heap)) {
            return NONE;
        }
        if (firstUnused == NIL) {
            return FULL;
        }
        insertCell(heap, newCell(key));
        return resize(heap, read(SIZE + heap) + 1);
    }

    public long least(int heap) {
        beginOn(heap);
        int root = leastRoot(heap);
        return root == NIL ? NO_KEY : read(KEY + root);
    }

    public long take(int heap) {
        beginOn(heap);
        int root = leastRoot(heap);
        if (root == NIL) {
            return NO_KEY;
        }
        long answer = read(KEY + root);
        cutRoot(heap, root);
        placeChildren(heap, root);
        giveBack(root);
        resize(heap, read(SIZE + heap) - 1);
        return answer;
    }

    public int meld(int to, int from) {
        beginOnBoth(to, from);
        if (!exists(to) || !exists(from) || to == from) {
            return NONE;
        }
        place(to, cutTwin(to));
        place(to, cutTwin(from));
        for (int rank = 0; rank < RANKS; rank++) {
            place(to, cutTop(from, rank));
        }
        int moved = read(SIZE + from);
        resize(from, 0);
        return resize(to, read(SIZE + to) + moved);
    }

    public int size(int heap) {
        begin(UNLIMITED);
        return exists(heap) ? read(SIZE + heap) : NONE;
    }

    public long key(int heap, int k) {
        begin(UNLIMITED);
        if (k < 0 || k >= keysIn(heap)) {
            return NO_KEY;
        }
        return kthListed(listCells(heap), k);
    }

    public long sum(int heap) {
        begin(UNLIMITED);
        if (!exists(heap)) {
            return 0;
        }
        int count = listCells(heap);
        long total = 0;
        for (int i = 0; i < count; i++) {
            total += listedKey(i);
        }
        return total;
    }

    public int free() {
        begin(UNLIMITED);
        return unused;
    }

    public boolean few() {
        boolean answer = steps <= limit;
        begin(UNLIMITED);
        return answer;
    }

    // Every element of the row goes through these two, so that no step is left uncounted.

    private int read(int at) {
        if (at < 0 || at >= row.length) {
            return NIL;
        }
        steps++;
        return row[at];
    }

    private void write(int at, int value) {
        if (at < 0 || at >= row.length) {
            return;
        }
        steps++;
        row[at] = value;
    }

    private void begin(int most) {
        steps = 0;
        limit = most;
    }

    // The limit is set after the count begins: looking up the sizes is part of the call's steps.

    private void beginOn(int heap) {
        steps = 0;
        limit = limitFor(keysIn(heap));
    }

    private void beginOnBoth(int to, int from) {
        steps = 0;
        limit = limitFor(keysIn(to) + keysIn(from));
    }

    private static int limitFor(int keys) {
        int power = 0;
        while (power < INT_BITS - 2 && (2 << power) <= keys + 1) {
            power++;
        }
        return LIMIT_UNIT * (2 + power);
    }

    private boolean exists(int heap) {
        return heap >= 0 && heap < heaps;
    }

    private int keysIn(int heap) {
        return exists(heap) ? read(SIZE + heap) : 0;
    }

    private int resize(int heap, int keys) {
        write(SIZE + heap, keys);
        return keys;
    }

    private int newCell(int key) {
        int cell = firstUnused;
        firstUnused = read(NEXT + cell);
        unused--;
        write(KEY + cell, key);
        write(RANK + cell, 0);
        write(CHILD + cell, NIL);
        return cell;
    }

    private void giveBack(int cell) {
        write(NEXT + cell, firstUnused);
        firstUnused = cell;
        unused++;
    }

    private static int topAt(int heap, int rank) {
        return TOP + heap * RANKS + rank;
    }

    private int cutTop(int heap, int rank) {
        int tree = read(topAt(heap, rank));
        write(topAt(heap, rank), NIL);
        return tree;
    }

    private int cutTwin(int heap) {
        int tree = read(TWIN + heap);
        write(TWIN + heap, NIL);
        return tree;
    }

    private void insertCell(int heap, int cell) {
        int tree = cell;
        int twin = cutTwin(heap);
        if (twin != NIL) {
            tree = link(twin, cutTop(heap, read(RANK + twin)));
            hangKey(tree, cell);
        }
        // Nothing of a lower rank is left, so a twin here is a twin of the lowest rank again.
        int at = topAt(heap, read(RANK + tree));
        write(read(at) == NIL ? at : TWIN + heap, tree);
    }

    private int link(int one, int other) {
        boolean oneIsLess = read(KEY + one) <= read(KEY + other);
        int root = oneIsLess ? one : other;
        hangTree(root, oneIsLess ? other : one);
        write(RANK + root, read(RANK + root) + 1);
        return root;
    }

    private void hangTree(int root, int tree) {
        write(NEXT + tree, read(CHILD + root));
        write(CHILD + root, tree);
    }

    // The lesser key goes to the root, so that the cell below stays a tree of rank 0.
    private void hangKey(int root, int cell) {
        int upper = read(KEY + root);
        int lower = read(KEY + cell);
        if (lower < upper) {
            write(KEY + root, lower);
            write(KEY + cell, upper);
        }
        hangTree(root, cell);
    }

    // Each link leaves one tree less, so placing many trees links no more often than there are trees.
    private void place(int heap, int added) {
        if (added == NIL) {
            return;
        }
        int tree = added;
        for (int rank = read(RANK + added); rank < RANKS; rank++) {
            int other = cutTop(heap, rank);
            if (other == NIL) {
                write(topAt(heap, rank), tree);
                return;
            }
            tree = link(tree, other);
        }
    }

    private void placeChildren(int heap, int root) {
        int child = read(CHILD + root);
        for (int placed = 0; placed < CELLS && child != NIL; placed++) {
            int next = read(NEXT + child);
            place(heap, child);
            child = next;
        }
    }

    private int leastRoot(int heap) {
        if (!exists(heap)) {
            return NIL;
        }
        int best = read(TWIN + heap);
        for (int rank = 0; rank < RANKS; rank++) {
            best = lesserRoot(best, read(topAt(heap, rank)));
        }
        return best;
    }

    private int lesserRoot(int one, int other) {
        if (one == NIL || other == NIL) {
            return one == NIL ? other : one;
        }
        return read(KEY + one) <= read(KEY + other) ? one : other;
    }

    // The twin is placed too: children of a lower rank are to come, and it would not be lowest then.
    private void cutRoot(int heap, int root) {
        int twin = cutTwin(heap);
        if (twin != root) {
            cutTop(heap, read(RANK + root));
            place(heap, twin);
        }
    }

    private int listCells(int heap) {
        int count = listChain(0, read(TWIN + heap), 1);
        for (int rank = 0; rank < RANKS; rank++) {
            count = listChain(count, read(topAt(heap, rank)), 1);
        }
        for (int i = 0; i < count && i < CELLS; i++) {
            count = listChain(count, read(CHILD + read(LIST + i)), CELLS);
        }
        return count;
    }

    private int listChain(int count, int first, int most) {
        int end = count;
        int cell = first;
        for (int i = 0; i < most && cell != NIL && end < CELLS; i++) {
            write(LIST + end, cell);
            end++;
            cell = read(NEXT + cell);
        }
        return end;
    }

    private int listedKey(int i) {
        return read(KEY + read(LIST + i));
    }

    // Halves the range of all ints until one value is left: no order of the cells makes this slow.
    private long kthListed(int count, int k) {
        long low = Integer.MIN_VALUE;
        long high = Integer.MAX_VALUE;
        for (int bit = 0; bit < INT_BITS; bit++) {
            long middle = (low + high) >> 1;
            if (countUpTo(count, middle) > k) {
                high = middle;
            } else {
                low = middle + 1;
            }
        }
        return low;
    }

    private int countUpTo(int count, long bound) {
        int found = 0;
        for (int i = 0; i < count; i++) {
            if (listedKey(i) <= bound) {
                found++;
            }
        }
        return found;
    }
}
