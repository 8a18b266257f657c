/** Each promise by itself: ordinary inputs, the edges that the document names, and wrong inputs. */
public final class PromisesTest {
    private static final long NO_KEY = Made.NO_KEY;
    private static final int CELLS = Made.CELLS;
    private static final int[] NO_HEAP = {-1, 2, 7, 8, 9, 64, Integer.MIN_VALUE, Integer.MAX_VALUE};

    public static void main(String[] args) {
        newObject();
        heap();
        add();
        addWhenFull();
        least();
        take();
        takeGivesCellsBack();
        meld();
        meldRefused();
        size();
        key();
        sum();
        free();
        few();
        refusedChangesNothing();
        Due.end();
    }

    private static void takesInOrder(String what, SkewMelds x, int heap, long... keys) {
        for (long key : keys) {
            Due.is(what + ": take(" + heap + ")", x.take(heap), key);
        }
        Due.is(what + ": take(" + heap + ") at the end", x.take(heap), NO_KEY);
    }

    private static void newObject() {
        Due.is("NONE", SkewMelds.NONE, -1);
        SkewMelds x = new SkewMelds();
        for (int heap = -1; heap <= 8; heap++) {
            Due.is("new: size(" + heap + ")", x.size(heap), -1);
        }
        Due.is("new: add(0, 1)", x.add(0, 1), -1);
        Due.is("new: least(0)", x.least(0), NO_KEY);
        Due.is("new: take(0)", x.take(0), NO_KEY);
        Due.is("new: meld(0, 1)", x.meld(0, 1), -1);
        Due.is("new: key(0, 0)", x.key(0, 0), NO_KEY);
        Due.is("new: sum(0)", x.sum(0), 0);
        Due.is("new: free()", x.free(), CELLS);
        Due.is("new: heap()", x.heap(), 0);
        SkewMelds other = new SkewMelds();
        Due.is("another new one: size(0)", other.size(0), -1);
    }

    private static void heap() {
        SkewMelds x = new SkewMelds();
        for (int heap = 0; heap < 8; heap++) {
            Due.is("heap()", x.heap(), heap);
            Due.is("size of a new heap", x.size(heap), 0);
            Due.is("least of a new heap", x.least(heap), NO_KEY);
            Due.is("the next heap is not there", x.size(heap + 1), -1);
        }
        Due.is("ninth heap()", x.heap(), -1);
        Due.is("tenth heap()", x.heap(), -1);
        Due.is("size(8)", x.size(8), -1);
        Due.is("add(7, 4)", x.add(7, 4), 1);
        x.meld(0, 7);
        Due.is("heap() after a meld", x.heap(), -1);
    }

    private static void add() {
        SkewMelds x = Made.withHeaps(2);
        Due.is("add(0, 5)", x.add(0, 5), 1);
        Due.is("add(0, 5) again", x.add(0, 5), 2);
        Due.is("add(1, MIN)", x.add(1, Integer.MIN_VALUE), 1);
        Due.is("add(1, MAX)", x.add(1, Integer.MAX_VALUE), 2);
        for (int heap : NO_HEAP) {
            Due.is("add(" + heap + ", 1)", x.add(heap, 1), -1);
        }
        takesInOrder("add", x, 0, 5, 5);
        takesInOrder("add", x, 1, Integer.MIN_VALUE, Integer.MAX_VALUE);
    }

    private static void addWhenFull() {
        SkewMelds x = Made.withHeaps(3);
        for (int i = 0; i < CELLS; i++) {
            Due.is("add until full", x.add(i % 2, -i), i / 2 + 1);
        }
        Due.is("add when full", x.add(0, 1), -2);
        Due.is("add when full to a heap without keys", x.add(2, 1), -2);
        Due.is("add when full to no heap", x.add(3, 1), -1);
        Due.is("add when full to no heap", x.add(-1, 1), -1);
        Due.is("size after refusal", x.size(0), 100);
        Due.is("take when full", x.take(0), -198);
        Due.is("add after take", x.add(2, 1), 1);
        Due.is("add when full again", x.add(2, 1), -2);
    }

    private static void least() {
        SkewMelds x = Made.withKeys(4, 9, 4, -3, 7);
        Due.is("least(0)", x.least(0), -3);
        Due.is("least(0) again", x.least(0), -3);
        Due.is("size after least", x.size(0), 5);
        Due.is("least of no keys", x.least(1), NO_KEY);
        x.add(1, Integer.MIN_VALUE);
        Due.is("least MIN", x.least(1), Integer.MIN_VALUE);
        x.take(1);
        x.add(1, -1);
        Due.is("least -1", x.least(1), -1);
        for (int heap : NO_HEAP) {
            Due.is("least(" + heap + ")", x.least(heap), NO_KEY);
        }
    }

    private static void take() {
        takesInOrder("take", Made.withKeys(3, 1, 2), 0, 1, 2, 3);
        takesInOrder("take of equal keys", Made.withKeys(2, 2, 1, 1, 2), 0, 1, 1, 2, 2, 2);
        takesInOrder("take of edges", Made.withKeys(0, Integer.MAX_VALUE, Integer.MIN_VALUE, -1), 0,
                Integer.MIN_VALUE, -1, 0, Integer.MAX_VALUE);
        SkewMelds x = Made.withKeys(6);
        Due.is("take of no keys", x.take(1), NO_KEY);
        for (int heap : NO_HEAP) {
            Due.is("take(" + heap + ")", x.take(heap), NO_KEY);
        }
        Due.is("size after refusals", x.size(0), 1);
        Due.is("take(0)", x.take(0), 6);
        Due.is("size after take", x.size(0), 0);
        Due.is("sum after take", x.sum(0), 0);
    }

    private static void takeGivesCellsBack() {
        SkewMelds x = Made.withHeaps(1);
        for (int i = 0; i < CELLS; i++) {
            x.add(0, i * 37 % CELLS);
        }
        for (int i = 0; i < 120; i++) {
            Due.is("take from full", x.take(0), i);
            Due.is("add after it", x.add(0, 1000 + i), CELLS);
        }
        Due.is("full once more", x.add(0, 0), -2);
    }

    private static void meld() {
        SkewMelds x = Made.withKeys(5, 1, 9);
        x.add(1, 4);
        x.add(1, 1);
        Due.is("meld(0, 1)", x.meld(0, 1), 5);
        Due.is("size(0)", x.size(0), 5);
        Due.is("size(1)", x.size(1), 0);
        Due.is("least(1)", x.least(1), NO_KEY);
        Due.is("sum(1)", x.sum(1), 0);
        Due.is("free()", x.free(), CELLS - 5);
        Due.is("meld of no keys", x.meld(0, 1), 5);
        Due.is("meld to no keys", x.meld(1, 0), 5);
        takesInOrder("melded", x, 1, 1, 1, 4, 5, 9);
        Due.is("meld of none with none", x.meld(0, 1), 0);
        Due.is("add to the emptied heap", x.add(0, 3), 1);
    }

    private static void meldRefused() {
        SkewMelds x = Made.withKeys(5, 1);
        Due.is("meld(0, 0)", x.meld(0, 0), -1);
        Due.is("meld(1, 1)", x.meld(1, 1), -1);
        for (int heap : NO_HEAP) {
            Due.is("meld(0, " + heap + ")", x.meld(0, heap), -1);
            Due.is("meld(" + heap + ", 0)", x.meld(heap, 0), -1);
            Due.is("meld(" + heap + ", itself)", x.meld(heap, heap), -1);
        }
        takesInOrder("after refused melds", x, 0, 1, 5);
    }

    private static void size() {
        SkewMelds x = Made.withHeaps(2);
        for (int i = 1; i <= 20; i++) {
            x.add(1, 7);
            Due.is("size(1)", x.size(1), i);
            Due.is("size(0)", x.size(0), 0);
        }
        for (int heap : NO_HEAP) {
            Due.is("size(" + heap + ")", x.size(heap), -1);
        }
    }

    private static void key() {
        SkewMelds x = Made.withKeys(8, Integer.MIN_VALUE, 3, Integer.MAX_VALUE, 3, 0, -1);
        long[] sorted = {Integer.MIN_VALUE, -1, 0, 3, 3, 8, Integer.MAX_VALUE};
        for (int k = 0; k < sorted.length; k++) {
            Due.is("key(0, " + k + ")", x.key(0, k), sorted[k]);
        }
        for (int k : new int[] {-1, 7, 8, 200, Integer.MIN_VALUE, Integer.MAX_VALUE}) {
            Due.is("key(0, " + k + ")", x.key(0, k), NO_KEY);
        }
        Due.is("key of no keys", x.key(1, 0), NO_KEY);
        for (int heap : NO_HEAP) {
            Due.is("key(" + heap + ", 0)", x.key(heap, 0), NO_KEY);
        }
        takesInOrder("after key", x, 0, sorted);
    }

    private static void sum() {
        SkewMelds x = Made.withKeys(8, -3, 3, 3);
        Due.is("sum(0)", x.sum(0), 11);
        Due.is("sum of no keys", x.sum(1), 0);
        for (int heap : NO_HEAP) {
            Due.is("sum(" + heap + ")", x.sum(heap), 0);
        }
        SkewMelds large = Made.withHeaps(2);
        for (int i = 0; i < CELLS / 2; i++) {
            large.add(0, Integer.MAX_VALUE);
            large.add(1, Integer.MIN_VALUE);
        }
        Due.is("sum beyond int", large.sum(0), 100L * Integer.MAX_VALUE);
        Due.is("sum below int", large.sum(1), 100L * Integer.MIN_VALUE);
        large.meld(0, 1);
        Due.is("sum of both", large.sum(0), -100);
        large.take(0);
        Due.is("sum after take", large.sum(0), -100L - Integer.MIN_VALUE);
    }

    private static void free() {
        SkewMelds x = Made.withHeaps(2);
        Due.is("free()", x.free(), CELLS);
        for (int i = 1; i <= CELLS; i++) {
            x.add(i % 2, i);
            Due.is("free() after add", x.free(), CELLS - i);
        }
        x.add(0, 1);
        Due.is("free() after a refused add", x.free(), 0);
        x.meld(0, 1);
        Due.is("free() after meld", x.free(), 0);
        x.take(0);
        Due.is("free() after take", x.free(), 1);
        x.take(1);
        Due.is("free() after a refused take", x.free(), 1);
    }

    private static void few() {
        SkewMelds x = new SkewMelds();
        Due.is("few() first of all", x.few(), true);
        Due.is("few() after few()", x.few(), true);
        x.add(0, 1);
        Due.is("few() after a refused add", x.few(), true);
        x.heap();
        Due.is("few() after heap()", x.few(), true);
        x.least(0);
        Due.is("few() after least of no keys", x.few(), true);
        x.meld(0, 0);
        Due.is("few() after a refused meld", x.few(), true);
        for (int i = 0; i < CELLS; i++) {
            x.add(0, -i);
            Due.is("few() after add", x.few(), true);
        }
        x.key(0, 100);
        Due.is("few() after key", x.few(), true);
        x.sum(0);
        Due.is("few() after sum", x.few(), true);
    }

    private static String seen(SkewMelds x) {
        StringBuilder text = new StringBuilder();
        text.append(x.free());
        for (int heap = 0; heap < 9; heap++) {
            int size = x.size(heap);
            text.append(" | ").append(size).append(' ').append(x.least(heap)).append(' ').append(x.sum(heap));
            for (int k = 0; k < size; k++) {
                text.append(' ').append(x.key(heap, k));
            }
        }
        return text.toString();
    }

    private static void refuse(SkewMelds x) {
        for (int heap : new int[] {-1, 8, Integer.MAX_VALUE, Integer.MIN_VALUE}) {
            Due.is("refused add", x.add(heap, 3), -1);
            Due.is("refused least", x.least(heap), NO_KEY);
            Due.is("refused take", x.take(heap), NO_KEY);
            Due.is("refused meld", x.meld(heap, 0), -1);
            Due.is("refused meld", x.meld(0, heap), -1);
            Due.is("refused size", x.size(heap), -1);
            Due.is("refused key", x.key(heap, 0), NO_KEY);
            Due.is("refused sum", x.sum(heap), 0);
        }
        Due.is("refused heap", x.heap(), -1);
        Due.is("refused take of no keys", x.take(7), NO_KEY);
        Due.is("refused meld with itself", x.meld(1, 1), -1);
        Due.is("refused key", x.key(0, -1), NO_KEY);
        Due.is("refused key", x.key(0, 200), NO_KEY);
    }

    private static void refusedChangesNothing() {
        SkewMelds x = Made.withHeaps(8);
        for (int i = 0; i < 20; i++) {
            x.add(i % 3, i * 7 % 11);
        }
        String before = seen(x);
        refuse(x);
        Due.holds("a refused call changes nothing", before.equals(seen(x)));
        SkewMelds full = Made.withHeaps(8);
        for (int i = 0; i < CELLS; i++) {
            full.add(0, i);
        }
        refuse(full);
        Due.is("refused add when full", full.add(1, 5), -2);
        Due.is("free() when full", full.free(), 0);
        Due.is("size(1)", full.size(1), 0);
        Due.is("sum(0)", full.sum(0), 19900);
    }
}
