/** The boundary cases of "What it is", "The public face" and "Terms", a test for each sentence. */
public final class TermsEdgesTest {
    /** One call on an object, a boolean counting 1 or 0. */
    private interface Call {
        long on(SkewMelds x);
    }

    public static void main(String[] args) {
        none();
        lastOfItsCalls();
        callsBeyondTheLast();
        firstAndLastHeap();
        leastAndGreatestKey();
        sameKeySeveralTimes();
        cellsInOneHeap();
        cellsInAllHeaps();
        cellsUsedAgain();
        stepsAreCounted();
        fewStepsOfAdd();
        fewStepsByKeys();
        fewStepsOfBothHeaps();
        fewStepsBefore();
        fewStepsOfRefusedCalls();
        fewStepsOfOtherCalls();
        Due.end();
    }

    private static void none() {
        Due.under("NONE = -1");
        Due.is("NONE", SkewMelds.NONE, -1);
    }

    /** An object that has had 511 calls: 4 heaps, heaps 0 and 1 with 100 keys each, all cells used. */
    private static SkewMelds before512th() {
        SkewMelds x = Made.withHeaps(4);
        x.free();
        int calls = 5;
        for (int i = 0; i < Made.CELLS; i++) {
            x.add(i % 2, i);
            calls++;
        }
        while (calls < Made.CALLS - 1) {
            Due.is("take(0) as call " + (calls + 1), x.take(0), 0);
            Due.is("add(0, 0) as call " + (calls + 2), x.add(0, 0), 100);
            calls += 2;
        }
        Due.is("calls before the 512th", calls, 511);
        return x;
    }

    private static void last(String call, long want, Call last) {
        Due.is(call + " as the 512th call", last.on(before512th()), want);
    }

    private static void lastOfItsCalls() {
        Due.under("An object is used for at most 512 calls after it has been made");
        last("heap()", 4, x -> x.heap());
        last("add(0, 7)", -2, x -> x.add(0, 7));
        last("add(4, 7)", -1, x -> x.add(4, 7));
        last("least(0)", 0, x -> x.least(0));
        last("least(2)", Made.NO_KEY, x -> x.least(2));
        last("take(0)", 0, x -> x.take(0));
        last("take(1)", 1, x -> x.take(1));
        last("meld(0, 1)", 200, x -> x.meld(0, 1));
        last("meld(2, 2)", -1, x -> x.meld(2, 2));
        last("size(1)", 100, x -> x.size(1));
        last("key(0, 99)", 198, x -> x.key(0, 99));
        last("key(1, 100)", Made.NO_KEY, x -> x.key(1, 100));
        last("sum(0)", 9900, x -> x.sum(0));
        last("sum(1)", 10000, x -> x.sum(1));
        last("free()", 0, x -> x.free());
        last("few()", 1, x -> x.few() ? 1 : 0);
    }

    /** What they answer is free, but LANGUAGE.md (7) lets no call throw by itself or fail to end. */
    private static void callsBeyondTheLast() {
        Due.under("what later calls answer is free");
        SkewMelds x = before512th();
        for (int i = 0; i < 20_000; i++) {
            x.take(i % 5);
            x.add(i * 3 % 5, i);
            x.meld(i % 4, i * 7 % 4);
            x.least(i % 9);
            x.key(i % 9, i % 201);
            x.sum(i % 9);
            x.size(i);
            x.few();
            x.free();
            x.heap();
        }
        Due.holds("calls beyond the 512th end", true);
    }

    private static void firstAndLastHeap() {
        Due.under("HEAPS are numbered from 0 on, 8 at most");
        SkewMelds x = new SkewMelds();
        Due.is("the first heap()", x.heap(), 0);
        for (int i = 1; i < Made.HEAPS - 1; i++) {
            x.heap();
        }
        Due.is("size(7) before its heap()", x.size(7), -1);
        Due.is("the last heap()", x.heap(), 7);
        Due.is("the heap() beyond", x.heap(), -1);
        Due.is("add(0, 5)", x.add(0, 5), 1);
        Due.is("add(7, 6)", x.add(7, 6), 1);
        Due.is("add(8, 7)", x.add(8, 7), -1);
        Due.is("add(-1, 7)", x.add(-1, 7), -1);
        Due.is("least(0)", x.least(0), 5);
        Due.is("least(7)", x.least(7), 6);
        Due.is("free()", x.free(), 198);
    }

    private static void leastAndGreatestKey() {
        Due.under("KEYS, ints");
        int[] keys = {Integer.MAX_VALUE, 0, Integer.MIN_VALUE, -1, Integer.MIN_VALUE + 1, 1,
            Integer.MAX_VALUE - 1, Integer.MIN_VALUE, Integer.MAX_VALUE};
        long[] sorted = {-2147483648L, -2147483648L, -2147483647L, -1, 0, 1, 2147483646L, 2147483647L,
            2147483647L};
        SkewMelds x = Made.withKeys(keys);
        for (int k = 0; k < sorted.length; k++) {
            Due.is("key(0, " + k + ")", x.key(0, k), sorted[k]);
        }
        for (long key : sorted) {
            Due.is("least(0)", x.least(0), key);
            Due.is("take(0)", x.take(0), key);
        }
    }

    private static void sameKeySeveralTimes() {
        Due.under("each perhaps several times");
        for (int key : new int[] {0, -1, Integer.MIN_VALUE, Integer.MAX_VALUE}) {
            SkewMelds x = Made.withHeaps(1);
            for (int i = 1; i <= Made.CELLS; i++) {
                Due.is("add(0, " + key + ")", x.add(0, key), i);
            }
            Due.is("key(0, 0)", x.key(0, 0), key);
            Due.is("key(0, 199)", x.key(0, 199), key);
            Due.is("key(0, 200)", x.key(0, 200), Made.NO_KEY);
            Due.is("sum(0)", x.sum(0), 200L * key);
            for (int i = 0; i < Made.CELLS; i++) {
                Due.is("take(0)", x.take(0), key);
            }
            Due.is("take(0) at the end", x.take(0), Made.NO_KEY);
        }
    }

    private static void cellsInOneHeap() {
        Due.under("CELLS are 200: as many keys there may be in all heaps together (in one heap)");
        SkewMelds x = Made.shared(1, Made.CELLS - 1);
        Due.is("free() with 199 keys", x.free(), 1);
        Due.is("add(0, 199)", x.add(0, 199), 200);
        Due.is("add(0, 200)", x.add(0, 200), -2);
        Due.is("size(0)", x.size(0), 200);
        Due.is("key(0, 199)", x.key(0, 199), 199);
        for (int i = 0; i < Made.CELLS; i++) {
            Due.is("take(0)", x.take(0), i);
        }
        Due.is("take(0) at the end", x.take(0), Made.NO_KEY);
        Due.is("free() at the end", x.free(), 200);
    }

    private static void cellsInAllHeaps() {
        Due.under("CELLS are 200: as many keys there may be in all heaps together (in eight heaps)");
        SkewMelds x = Made.shared(Made.HEAPS, Made.CELLS - 1);
        Due.is("add(7, 199)", x.add(7, 199), 25);
        for (int heap = 0; heap < Made.HEAPS; heap++) {
            Due.is("add(" + heap + ", 1) to 25 keys", x.add(heap, 1), -2);
            Due.is("size(" + heap + ")", x.size(heap), 25);
        }
        for (int heap = 1; heap < Made.HEAPS; heap++) {
            Due.is("meld(0, " + heap + ")", x.meld(0, heap), 25 * (heap + 1));
            Due.is("add(" + heap + ", 1) to no keys", x.add(heap, 1), -2);
        }
        for (int i = 0; i < Made.CELLS; i++) {
            Due.is("take(0)", x.take(0), i);
        }
    }

    private static void cellsUsedAgain() {
        Due.under("CELLS are 200: as many keys there may be in all heaps together (used again)");
        SkewMelds x = Made.shared(2, Made.CELLS);
        for (int i = 0; i < Made.CELLS / 2; i++) {
            Due.is("take(0)", x.take(0), 2 * i);
        }
        for (int i = 1; i <= Made.CELLS / 2; i++) {
            Due.is("add(0, -i)", x.add(0, -i), i);
        }
        Due.is("add(0, 1)", x.add(0, 1), -2);
        Due.is("free()", x.free(), 0);
        Due.is("sum(0)", x.sum(0), -5050);
        Due.is("sum(1)", x.sum(1), 10000);
    }

    private static void stepsAreCounted() {
        Due.under("THE STEPS of a call are how many elements of rows it read or wrote");
        SkewMelds x = Made.shared(2, 20);
        x.add(0, 1);
        Due.holds("add() counts its cell, its heap and its size", Steps.of(x) >= 4);
        x.least(0);
        Due.holds("least() counts a root and its key", Steps.of(x) >= 2);
        x.take(0);
        Due.holds("take() counts a root, its key and its size", Steps.of(x) >= 4);
        x.meld(0, 1);
        Due.holds("meld() counts both heaps", Steps.of(x) >= 4);
        x.sum(0);
        Due.holds("sum() counts each key", Steps.of(x) >= 20);
        x.few();
        Due.is("steps of few()", Steps.of(x), 0);
        Due.is("steps of one read", Steps.ofOneRead(x, 0), 1);
        Due.is("steps of one write", Steps.ofOneWrite(x, 0), 1);
    }

    private static void fewAt(String call, SkewMelds x, int steps, boolean want) {
        Steps.set(x, steps);
        Due.is("few() after " + call + " in " + steps + " steps", x.few(), want);
    }

    private static void fewStepsOfAdd() {
        Due.under("They are FEW when they are, of add(), 100 at most");
        for (int keys : new int[] {0, 1, 2, 3, 98, 99, 100, 199}) {
            SkewMelds x = Made.shared(1, keys);
            Due.is("add", x.add(0, 5), keys + 1);
            fewAt("add to " + keys + " keys", x, 100, true);
            x.take(0);
            x.add(0, 5);
            fewAt("add to " + keys + " keys", x, 101, false);
        }
    }

    private static void fewStepsByKeys() {
        Due.under("of least(), take() and meld() 200 times (2 and L) at most");
        int[][] keysAndMost = {{0, 400}, {1, 600}, {2, 600}, {3, 800}, {4, 800}, {6, 800}, {7, 1000},
            {14, 1000}, {15, 1200}, {30, 1200}, {31, 1400}, {62, 1400}, {63, 1600}, {126, 1600},
            {127, 1800}, {128, 1800}, {199, 1800}, {200, 1800}};
        for (int[] pair : keysAndMost) {
            String keys = " of " + pair[0] + " keys";
            fewUpTo("least" + keys, pair, x -> x.least(0));
            fewUpTo("take" + keys, pair, x -> x.take(0));
            fewUpTo("meld to 0 keys" + keys, pair, x -> x.meld(1, 0));
            fewUpTo("meld from 0 keys" + keys, pair, x -> x.meld(0, 1));
        }
    }

    private static void fewUpTo(String call, int[] keysAndMost, Call latest) {
        for (int beyond = 0; beyond < 2; beyond++) {
            SkewMelds x = Made.shared(1, keysAndMost[0]);
            x.heap();
            latest.on(x);
            fewAt(call, x, keysAndMost[1] + beyond, beyond == 0);
        }
    }

    private static void fewStepsOfBothHeaps() {
        Due.under("the keys of its heaps (meld() has two)");
        int[][] keysAndMost = {{2, 600}, {3, 800}, {14, 1000}, {15, 1200}, {126, 1600}, {127, 1800}};
        for (int[] pair : keysAndMost) {
            for (int beyond = 0; beyond < 2; beyond++) {
                SkewMelds x = Made.shared(2, pair[0]);
                x.meld(1, 0);
                fewAt("meld of " + pair[0] + " keys", x, pair[1] + beyond, beyond == 0);
            }
        }
    }

    private static void fewStepsBefore() {
        Due.under("the keys of its heaps, before, and 1");
        SkewMelds x = Made.shared(2, 7);
        x.meld(0, 1);
        x.take(0);
        fewAt("the take of the 7th key", x, 1000, true);
        x.take(0);
        fewAt("the take of the 6th key", x, 801, false);
        x.take(0);
        x.take(0);
        x.take(0);
        fewAt("the take of the 3rd key", x, 800, true);
        x.take(0);
        fewAt("the take of the 2nd key", x, 601, false);
        x.take(0);
        fewAt("the take of the last key", x, 600, true);
        x.take(0);
        fewAt("the take of no key", x, 401, false);
    }

    private static void fewStepsOfRefusedCalls() {
        Due.under("few steps of a refused call: no heaps have no keys, L is 0");
        Call[] calls = {x -> x.least(8), x -> x.take(-1), x -> x.meld(8, 9), x -> x.meld(-1, -1)};
        for (Call call : calls) {
            for (int beyond = 0; beyond < 2; beyond++) {
                SkewMelds x = Made.shared(1, 9);
                call.on(x);
                fewAt("a refused call", x, 400 + beyond, beyond == 0);
            }
        }
        SkewMelds x = Made.shared(1, 9);
        x.add(1, 1);
        fewAt("a refused add", x, 101, false);
    }

    private static void fewStepsOfOtherCalls() {
        Due.under("of other calls they always are");
        Call[] calls = {x -> x.heap(), x -> x.size(0), x -> x.size(-1), x -> x.key(0, 5), x -> x.key(0, -1),
            x -> x.sum(0), x -> x.sum(9), x -> x.free(), x -> x.few() ? 1 : 0};
        for (int i = 0; i < calls.length; i++) {
            SkewMelds x = Made.shared(1, 9);
            calls[i].on(x);
            fewAt("other call " + i, x, Integer.MAX_VALUE, true);
            SkewMelds full = Made.shared(1, Made.CELLS);
            calls[i].on(full);
            Due.is("few() after other call " + i + " with all cells used", full.few(), true);
        }
    }
}
