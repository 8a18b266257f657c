import java.util.ArrayList;
import java.util.List;

/**
 * "A call that is refused changes nothing.": two objects have the same calls, but one of them has refused
 * ones in between; all that can be asked of them afterwards has the same answers. A test for each call
 * that can be refused, and for each reason.
 */
public final class RefusedTest {
    private static final long NO_KEY = Made.NO_KEY;
    private static final int TIMES = 3;

    private interface Call {
        long on(SkewMelds x);
    }

    private interface State {
        SkewMelds make();
    }

    public static void main(String[] args) {
        heapWhenThereAre8();
        addToNoHeap();
        addWhenFull();
        leastOfNone();
        takeOfNone();
        meldOfNone();
        meldOfTheSame();
        sizeOfNone();
        keyOfNone();
        sumOfNone();
        Due.end();
    }

    /** Heap 0 with 13 keys, a twin among its trees; 1 with 6, melded and taken from; 2 and 3 without. */
    private static SkewMelds ordinary() {
        SkewMelds x = Made.withHeaps(4);
        for (int i = 0; i < 13; i++) {
            x.add(0, i * 5 % 13);
            x.add(i % 2 == 0 ? 1 : 3, i * 7 % 4);
        }
        x.meld(1, 3);
        for (int i = 0; i < 7; i++) {
            x.take(1);
        }
        return x;
    }

    private static SkewMelds eightHeaps() {
        return Made.shared(Made.HEAPS, 27);
    }

    /** All cells used, by heaps 0 to 2; heap 3 without keys. */
    private static SkewMelds full() {
        SkewMelds x = Made.shared(3, Made.CELLS);
        x.heap();
        return x;
    }

    private static SkewMelds emptied() {
        SkewMelds x = Made.shared(4, 20);
        for (int i = 0; i < 20; i++) {
            x.take(i % 4);
        }
        return x;
    }

    /** Every answer that tells of the state, and then of what it does next: some 300 calls at most. */
    private static List<Long> answersOf(SkewMelds x) {
        List<Long> answers = new ArrayList<>();
        answers.add((long) x.free());
        for (int heap = 0; heap <= Made.HEAPS; heap++) {
            int size = x.size(heap);
            answers.add((long) size);
            answers.add(x.least(heap));
            answers.add(x.sum(heap));
            for (int k = 0; k < size; k++) {
                answers.add(x.key(heap, k));
            }
        }
        for (int i = 0; i < 5; i++) {
            answers.add(x.take(i % 3));
            answers.add((long) x.add(i % 4, -i));
            answers.add((long) x.meld(i % 3, i % 3 + 1));
            answers.add((long) x.heap());
        }
        for (int i = 0; i < 30; i++) {
            answers.add(x.take(i % 4));
        }
        answers.add((long) x.free());
        return answers;
    }

    private static void refused(String call, State state, long want, Call refused) {
        SkewMelds x = state.make();
        for (int i = 0; i < TIMES; i++) {
            Due.is(call, refused.on(x), want);
        }
        Due.holds(call + " changes nothing", answersOf(x).equals(answersOf(state.make())));
    }

    private static void refusedInAll(String call, long want, Call refused) {
        refused(call + ", ordinary", RefusedTest::ordinary, want, refused);
        refused(call + ", emptied", RefusedTest::emptied, want, refused);
        refused(call + ", full", RefusedTest::full, want, refused);
    }

    private static void heapWhenThereAre8() {
        Due.under("A call that is refused changes nothing: heap()");
        refused("heap() with keys", RefusedTest::eightHeaps, -1, x -> x.heap());
        refused("heap() without keys", () -> Made.withHeaps(Made.HEAPS), -1, x -> x.heap());
        refused("heap(), full", () -> Made.shared(Made.HEAPS, Made.CELLS), -1, x -> x.heap());
    }

    private static void addToNoHeap() {
        Due.under("A call that is refused changes nothing: add() to no heap");
        for (int heap : Made.notAmong(4)) {
            refusedInAll("add(" + heap + ", -9)", -1, x -> x.add(heap, -9));
        }
        refused("add(0, 1) without heaps", SkewMelds::new, -1, x -> x.add(0, 1));
        refused("add(8, 1)", RefusedTest::eightHeaps, -1, x -> x.add(8, 1));
    }

    private static void addWhenFull() {
        Due.under("A call that is refused changes nothing: add() when all cells are used");
        for (int key : new int[] {-9, 9, 1000, Integer.MIN_VALUE, Integer.MAX_VALUE}) {
            for (int heap = 0; heap < 4; heap++) {
                int to = heap;
                refused("add(" + heap + ", " + key + ")", RefusedTest::full, -2, x -> x.add(to, key));
            }
        }
    }

    private static void leastOfNone() {
        Due.under("A call that is refused changes nothing: least()");
        for (int heap : Made.notAmong(4)) {
            refusedInAll("least(" + heap + ")", NO_KEY, x -> x.least(heap));
        }
        refused("least(2) without keys", RefusedTest::ordinary, NO_KEY, x -> x.least(2));
        refused("least(0) without keys", RefusedTest::emptied, NO_KEY, x -> x.least(0));
    }

    private static void takeOfNone() {
        Due.under("A call that is refused changes nothing: take()");
        for (int heap : Made.notAmong(4)) {
            refusedInAll("take(" + heap + ")", NO_KEY, x -> x.take(heap));
        }
        refused("take(2) without keys", RefusedTest::ordinary, NO_KEY, x -> x.take(2));
        refused("take(3) without keys", RefusedTest::full, NO_KEY, x -> x.take(3));
        refused("take(0) without keys", RefusedTest::emptied, NO_KEY, x -> x.take(0));
        refused("take(0) without heaps", SkewMelds::new, NO_KEY, x -> x.take(0));
    }

    private static void meldOfNone() {
        Due.under("A call that is refused changes nothing: meld() of no heap");
        for (int heap : Made.notAmong(4)) {
            refusedInAll("meld(0, " + heap + ")", -1, x -> x.meld(0, heap));
            refusedInAll("meld(" + heap + ", 0)", -1, x -> x.meld(heap, 0));
            refusedInAll("meld(" + heap + ", -1)", -1, x -> x.meld(heap, -1));
        }
        refused("meld(0, 1) without heaps", SkewMelds::new, -1, x -> x.meld(0, 1));
    }

    private static void meldOfTheSame() {
        Due.under("A call that is refused changes nothing: meld() of a heap with itself");
        for (int i = 0; i < 4; i++) {
            int heap = i;
            refusedInAll("meld(" + heap + ", " + heap + ")", -1, x -> x.meld(heap, heap));
        }
        for (int heap : Made.notAmong(4)) {
            refusedInAll("meld(" + heap + ", " + heap + ")", -1, x -> x.meld(heap, heap));
        }
    }

    private static void sizeOfNone() {
        Due.under("A call that is refused changes nothing: size()");
        for (int heap : Made.notAmong(4)) {
            refusedInAll("size(" + heap + ")", -1, x -> x.size(heap));
        }
    }

    private static void keyOfNone() {
        Due.under("A call that is refused changes nothing: key()");
        for (int heap : Made.notAmong(4)) {
            refusedInAll("key(" + heap + ", 0)", NO_KEY, x -> x.key(heap, 0));
        }
        for (int k : new int[] {-1, Made.CELLS, Integer.MIN_VALUE, Integer.MAX_VALUE}) {
            refusedInAll("key(0, " + k + ")", NO_KEY, x -> x.key(0, k));
        }
        refused("key(0, 13) of 13 keys", RefusedTest::ordinary, NO_KEY, x -> x.key(0, 13));
        refused("key(2, 0) of no keys", RefusedTest::ordinary, NO_KEY, x -> x.key(2, 0));
    }

    private static void sumOfNone() {
        Due.under("A call that is refused changes nothing: sum()");
        for (int heap : Made.notAmong(4)) {
            refusedInAll("sum(" + heap + ")", 0, x -> x.sum(heap));
        }
    }
}
