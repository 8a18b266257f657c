/** The boundary cases of promises 1 to 11, a test for each sentence that names one. */
public final class PromiseEdgesTest {
    private static final long NO_KEY = Made.NO_KEY;
    private static final int[] NO_PLACE = {-1, -2, Integer.MIN_VALUE, Integer.MAX_VALUE, 1 << 16};

    public static void main(String[] args) {
        noHeaps();
        heapWithoutKeys();
        heapWhenThereAre8();
        addAnswersHowMany();
        addToNoneSuch();
        addWhenAllCellsAreUsed();
        addToNoneSuchWhenAllCellsAreUsed();
        leastOfNone();
        leastOfNoSuchHeap();
        takeOfOneOfThem();
        takeOfNone();
        takeOfNoSuchHeap();
        meldTakesAllKeys();
        meldAnswersHowMany();
        meldOfNoneSuch();
        meldOfTheSame();
        sizeOfNoneSuch();
        keyFromZeroOn();
        keyOfNoneSuchPlace();
        keyOfNoneSuchHeap();
        sumBeyondInt();
        sumOfNoneSuch();
        freeFromAllToNone();
        fewOfTheLatestCallButThisOne();
        Due.end();
    }

    private static void noHeaps() {
        Due.under("1: No heaps.");
        Made.shared(8, 100);
        SkewMelds x = new SkewMelds();
        for (int heap = -1; heap <= 8; heap++) {
            Due.is("size(" + heap + ")", x.size(heap), -1);
        }
        Due.is("free()", x.free(), 200);
        Due.is("heap()", x.heap(), 0);
    }

    private static void heapWithoutKeys() {
        Due.under("2: One more heap, without keys. Answers its number");
        SkewMelds x = new SkewMelds();
        for (int heap = 0; heap < Made.HEAPS; heap++) {
            Due.is("heap()", x.heap(), heap);
            Due.is("size", x.size(heap), 0);
            Due.is("least", x.least(heap), NO_KEY);
            Due.is("take", x.take(heap), NO_KEY);
            Due.is("key", x.key(heap, 0), NO_KEY);
            Due.is("sum", x.sum(heap), 0);
            Due.is("the next heap's size", x.size(heap + 1), -1);
            Due.is("add", x.add(heap, heap), 1);
        }
        SkewMelds full = Made.shared(1, Made.CELLS);
        Due.is("heap() when all cells are used", full.heap(), 1);
        Due.is("its size", full.size(1), 0);
    }

    private static void heapWhenThereAre8() {
        Due.under("2: NONE when there are 8.");
        SkewMelds x = Made.withHeaps(7);
        Due.is("the eighth heap()", x.heap(), 7);
        for (int i = 0; i < 300; i++) {
            Due.is("heap() beyond", x.heap(), -1);
        }
        Due.is("size(8)", x.size(8), -1);
        Due.is("add(7, 1)", x.add(7, 1), 1);
        Due.is("meld(0, 7)", x.meld(0, 7), 1);
        Due.is("heap() when one was melded away", x.heap(), -1);
        Due.is("take(0)", x.take(0), 1);
        Due.is("heap() when all are without keys", x.heap(), -1);
    }

    private static void addAnswersHowMany() {
        Due.under("3: Answers how many the heap has then");
        SkewMelds x = Made.shared(2, 10);
        Due.is("add to 5 keys", x.add(1, 3), 6);
        x.take(1);
        x.take(1);
        Due.is("add after two takes", x.add(1, 3), 5);
        x.meld(0, 1);
        Due.is("add to the melded heap", x.add(0, 3), 11);
        Due.is("add to the emptied heap", x.add(1, 3), 1);
    }

    private static void addToNoneSuch() {
        Due.under("3: NONE when there is none such");
        for (int heaps = 0; heaps <= Made.HEAPS; heaps++) {
            SkewMelds x = Made.withHeaps(heaps);
            for (int heap : Made.notAmong(heaps)) {
                Due.is("add(" + heap + ", 1) with " + heaps + " heaps", x.add(heap, 1), -1);
            }
            Due.is("free()", x.free(), 200);
        }
    }

    private static void addWhenAllCellsAreUsed() {
        Due.under("3: -2 when all cells are used");
        SkewMelds x = Made.shared(3, Made.CELLS - 1);
        Due.is("add to the last cell", x.add(2, 9), 67);
        for (int heap = 0; heap < 3; heap++) {
            Due.is("add when all are used", x.add(heap, 9), -2);
        }
        Due.is("take(0)", x.take(0), 0);
        Due.is("add to the cell given back", x.add(1, 9), 67);
        Due.is("add when all are used again", x.add(1, Integer.MIN_VALUE), -2);
        Due.is("least(1)", x.least(1), 1);
    }

    private static void addToNoneSuchWhenAllCellsAreUsed() {
        Due.under("3: NONE when there is none such; -2 when all cells are used (both)");
        SkewMelds x = Made.shared(3, Made.CELLS);
        for (int heap : Made.notAmong(3)) {
            Due.is("add(" + heap + ", 1)", x.add(heap, 1), -1);
        }
    }

    private static void leastOfNone() {
        Due.under("4: Long.MIN_VALUE when there is none");
        SkewMelds x = Made.withKeys(Integer.MIN_VALUE);
        Due.is("least of the least int", x.least(0), -2147483648L);
        Due.is("least of a new heap", x.least(1), NO_KEY);
        x.take(0);
        Due.is("least when all were taken", x.least(0), NO_KEY);
        x.add(0, 4);
        Due.is("least of one key", x.least(0), 4);
        x.meld(1, 0);
        Due.is("least when all were melded away", x.least(0), NO_KEY);
        Due.is("least of where they went", x.least(1), 4);
    }

    private static void leastOfNoSuchHeap() {
        Due.under("4: Long.MIN_VALUE when there is no such heap");
        for (int heaps = 1; heaps <= Made.HEAPS; heaps++) {
            SkewMelds x = Made.shared(heaps, 2 * heaps);
            for (int heap : Made.notAmong(heaps)) {
                Due.is("least(" + heap + ") with " + heaps + " heaps", x.least(heap), NO_KEY);
            }
        }
    }

    private static void takeOfOneOfThem() {
        Due.under("5: The least key goes (one of them, when there are more). Answers it");
        SkewMelds x = Made.withKeys(7, 2, 2, 9, 2);
        long[] due = {2, 2, 2, 7, 9};
        for (int i = 0; i < due.length; i++) {
            Due.is("take(0)", x.take(0), due[i]);
            Due.is("size(0)", x.size(0), due.length - 1 - i);
            Due.is("free()", x.free(), Made.CELLS - (due.length - 1 - i));
        }
    }

    private static void takeOfNone() {
        Due.under("5: Long.MIN_VALUE likewise (no key)");
        SkewMelds x = Made.withKeys(Integer.MIN_VALUE);
        Due.is("take from a new heap", x.take(1), NO_KEY);
        Due.is("take of the least int", x.take(0), -2147483648L);
        Due.is("take when all were taken", x.take(0), NO_KEY);
        Due.is("size(0)", x.size(0), 0);
        Due.is("free()", x.free(), 200);
        x.add(0, 4);
        x.meld(1, 0);
        Due.is("take when all were melded away", x.take(0), NO_KEY);
        Due.is("take from where they went", x.take(1), 4);
    }

    private static void takeOfNoSuchHeap() {
        Due.under("5: Long.MIN_VALUE likewise (no such heap)");
        for (int heaps = 1; heaps <= Made.HEAPS; heaps++) {
            SkewMelds x = Made.shared(heaps, 2 * heaps);
            for (int heap : Made.notAmong(heaps)) {
                Due.is("take(" + heap + ") with " + heaps + " heaps", x.take(heap), NO_KEY);
            }
            Due.is("free()", x.free(), Made.CELLS - 2 * heaps);
        }
    }

    private static void meldTakesAllKeys() {
        Due.under("6: All keys of the second heap go to the first one.");
        for (int keys = 0; keys <= Made.CELLS; keys++) {
            SkewMelds x = Made.shared(2, keys);
            x.meld(1, 0);
            Due.is("size(0)", x.size(0), 0);
            Due.is("sum(0)", x.sum(0), 0);
            Due.is("least(0)", x.least(0), NO_KEY);
            Due.is("free()", x.free(), Made.CELLS - keys);
            for (int key = 0; key < keys; key++) {
                Due.is("take(1)", x.take(1), key);
            }
            Due.is("take(1) at the end", x.take(1), NO_KEY);
        }
    }

    private static void meldAnswersHowMany() {
        Due.under("6: Answers how many that has then");
        SkewMelds x = Made.withHeaps(3);
        Due.is("meld of no keys to no keys", x.meld(0, 1), 0);
        x.add(0, 5);
        Due.is("meld of no keys to one", x.meld(0, 1), 1);
        Due.is("meld of one key to none", x.meld(1, 0), 1);
        x.add(0, 5);
        Due.is("meld of one key to one", x.meld(0, 1), 2);
        SkewMelds full = Made.shared(8, Made.CELLS);
        for (int heap = 1; heap < Made.HEAPS; heap++) {
            Due.is("meld when all cells are used", full.meld(heap, heap - 1), 25 * (heap + 1));
        }
    }

    private static void meldOfNoneSuch() {
        Due.under("6: NONE when there are none such");
        for (int heaps = 1; heaps <= Made.HEAPS; heaps++) {
            SkewMelds x = Made.shared(heaps, 3 * heaps);
            for (int heap : Made.notAmong(heaps)) {
                Due.is("meld(" + heap + ", 0)", x.meld(heap, 0), -1);
                Due.is("meld(0, " + heap + ")", x.meld(0, heap), -1);
                Due.is("meld(" + heap + ", -1)", x.meld(heap, -1), -1);
                Due.is("meld(8, " + heap + ")", x.meld(8, heap), -1);
            }
            Due.is("size(0)", x.size(0), 3);
        }
    }

    private static void meldOfTheSame() {
        Due.under("6: NONE when both are the same");
        SkewMelds x = Made.shared(Made.HEAPS, 17);
        for (int heap = 0; heap < Made.HEAPS; heap++) {
            Due.is("meld(" + heap + ", " + heap + ")", x.meld(heap, heap), -1);
            Due.is("size(" + heap + ")", x.size(heap), heap == 0 ? 3 : 2);
        }
        for (int heap : Made.notAmong(Made.HEAPS)) {
            Due.is("meld(" + heap + ", " + heap + ")", x.meld(heap, heap), -1);
        }
        SkewMelds empty = Made.withHeaps(1);
        Due.is("meld(0, 0) without keys", empty.meld(0, 0), -1);
        SkewMelds full = Made.shared(1, Made.CELLS);
        Due.is("meld(0, 0) when all cells are used", full.meld(0, 0), -1);
        Due.is("its size", full.size(0), 200);
    }

    private static void sizeOfNoneSuch() {
        Due.under("7: NONE when there is none such");
        for (int heaps = 0; heaps <= Made.HEAPS; heaps++) {
            SkewMelds x = Made.withHeaps(heaps);
            for (int heap : Made.notAmong(heaps)) {
                Due.is("size(" + heap + ") with " + heaps + " heaps", x.size(heap), -1);
            }
            for (int heap = 0; heap < heaps; heap++) {
                Due.is("size(" + heap + ") with " + heaps + " heaps", x.size(heap), 0);
            }
        }
    }

    private static void keyFromZeroOn() {
        Due.under("8: The k-th key of a heap, from 0 on, the least first");
        for (int keys = 1; keys <= Made.CELLS; keys++) {
            SkewMelds x = Made.withHeaps(1);
            for (int i = keys - 1; i >= 0; i--) {
                x.add(0, i / 2 - 50);
            }
            for (int k = 0; k < keys; k++) {
                Due.is("key(0, " + k + ")", x.key(0, k), k / 2 - 50);
            }
        }
    }

    private static void keyOfNoneSuchPlace() {
        Due.under("8: Long.MIN_VALUE when there is none such (no such k)");
        SkewMelds empty = Made.withHeaps(1);
        Due.is("key(0, 0) without keys", empty.key(0, 0), NO_KEY);
        for (int keys : new int[] {1, 2, 3, 199, 200}) {
            SkewMelds x = Made.shared(1, keys);
            Due.is("key(0, " + keys + ")", x.key(0, keys), NO_KEY);
            Due.is("key(0, " + (keys + 1) + ")", x.key(0, keys + 1), NO_KEY);
            for (int k : NO_PLACE) {
                Due.is("key(0, " + k + ")", x.key(0, k), NO_KEY);
            }
            Due.is("key(0, " + (keys - 1) + ")", x.key(0, keys - 1), keys - 1);
            x.take(0);
            Due.is("key(0, " + (keys - 1) + ") after a take", x.key(0, keys - 1), NO_KEY);
        }
    }

    private static void keyOfNoneSuchHeap() {
        Due.under("8: Long.MIN_VALUE when there is none such (no such heap)");
        for (int heaps = 1; heaps <= Made.HEAPS; heaps++) {
            SkewMelds x = Made.shared(heaps, 2 * heaps);
            for (int heap : Made.notAmong(heaps)) {
                Due.is("key(" + heap + ", 0)", x.key(heap, 0), NO_KEY);
                Due.is("key(" + heap + ", -1)", x.key(heap, -1), NO_KEY);
            }
        }
    }

    private static void sumBeyondInt() {
        Due.under("9: All keys of a heap together");
        SkewMelds x = Made.withKeys(Integer.MAX_VALUE);
        Due.is("sum of the greatest int", x.sum(0), 2147483647L);
        x.add(0, 1);
        Due.is("sum one beyond", x.sum(0), 2147483648L);
        x.add(1, Integer.MIN_VALUE);
        Due.is("sum of the least int", x.sum(1), -2147483648L);
        x.add(1, -1);
        Due.is("sum one below", x.sum(1), -2147483649L);
        x.meld(0, 1);
        Due.is("sum of all four", x.sum(0), -1);
        Due.is("sum of a heap without keys", x.sum(1), 0);
        for (int key : new int[] {Integer.MIN_VALUE, Integer.MAX_VALUE}) {
            SkewMelds full = Made.withHeaps(1);
            for (int i = 0; i < Made.CELLS; i++) {
                full.add(0, key);
            }
            Due.is("sum of 200 times " + key, full.sum(0), 200L * key);
        }
    }

    private static void sumOfNoneSuch() {
        Due.under("9: 0 when there is none such");
        for (int heaps = 0; heaps <= Made.HEAPS; heaps++) {
            SkewMelds x = Made.withHeaps(heaps);
            for (int heap = 0; heap < heaps; heap++) {
                x.add(heap, 5);
            }
            for (int heap : Made.notAmong(heaps)) {
                Due.is("sum(" + heap + ") with " + heaps + " heaps", x.sum(heap), 0);
            }
        }
    }

    private static void freeFromAllToNone() {
        Due.under("10: How many cells are not used.");
        SkewMelds x = Made.withHeaps(1);
        Due.is("free() of all", x.free(), 200);
        x.add(0, 1);
        Due.is("free() of all but one", x.free(), 199);
        for (int i = 0; i < 198; i++) {
            x.add(0, 1);
        }
        Due.is("free() of the last", x.free(), 1);
        x.add(0, 1);
        Due.is("free() of none", x.free(), 0);
        x.add(0, 1);
        Due.is("free() after the add beyond", x.free(), 0);
        x.take(0);
        Due.is("free() after a take", x.free(), 1);
        for (int i = 0; i < 199; i++) {
            x.take(0);
        }
        Due.is("free() of all again", x.free(), 200);
        x.take(0);
        Due.is("free() after the take beyond", x.free(), 200);
    }

    private static void fewOfTheLatestCallButThisOne() {
        Due.under("11: Whether the latest call but this one took few steps.");
        SkewMelds x = new SkewMelds();
        Due.is("few() as the first call", x.few(), true);
        Due.is("few() after few()", x.few(), true);
        x.heap();
        x.add(0, 1);
        Steps.set(x, 101);
        Due.is("few() after too many steps", x.few(), false);
        Due.is("few() after that few()", x.few(), true);
        x.add(0, 1);
        Steps.set(x, 101);
        x.least(0);
        Due.is("few() when a later call took few", x.few(), true);
    }
}
