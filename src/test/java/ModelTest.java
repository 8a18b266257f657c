import java.util.ArrayList;
import java.util.Collections;
import java.util.List;
import java.util.Random;

/** Long runs of calls, up to 512 an object, answered by a plain model with sorted lists too. */
public final class ModelTest {
    private static final int RUNS = 3000;
    private static final int CALLS = 512;
    private static final int CELLS = 200;
    private static final int[] SPREADS = {1, 3, 50, 100_000, 0};

    /** The document in its plainest words. */
    private static final class Model {
        private final List<List<Integer>> heaps = new ArrayList<>();

        private List<Integer> keys(int heap) {
            return heap >= 0 && heap < heaps.size() ? heaps.get(heap) : null;
        }

        private int free() {
            int used = 0;
            for (List<Integer> keys : heaps) {
                used += keys.size();
            }
            return CELLS - used;
        }

        private int heap() {
            if (heaps.size() == 8) {
                return -1;
            }
            heaps.add(new ArrayList<>());
            return heaps.size() - 1;
        }

        private int add(int heap, int key) {
            List<Integer> keys = keys(heap);
            if (keys == null) {
                return -1;
            }
            if (free() == 0) {
                return -2;
            }
            keys.add(key);
            Collections.sort(keys);
            return keys.size();
        }

        private long key(int heap, int k) {
            List<Integer> keys = keys(heap);
            return keys == null || k < 0 || k >= keys.size() ? Long.MIN_VALUE : keys.get(k);
        }

        private long take(int heap) {
            long answer = key(heap, 0);
            if (answer != Long.MIN_VALUE) {
                keys(heap).remove(0);
            }
            return answer;
        }

        private int meld(int to, int from) {
            if (keys(to) == null || keys(from) == null || to == from) {
                return -1;
            }
            keys(to).addAll(keys(from));
            keys(from).clear();
            Collections.sort(keys(to));
            return keys(to).size();
        }

        private int size(int heap) {
            return keys(heap) == null ? -1 : keys(heap).size();
        }

        private long sum(int heap) {
            long total = 0;
            if (keys(heap) != null) {
                for (int key : keys(heap)) {
                    total += key;
                }
            }
            return total;
        }
    }

    private final Random random;
    private final SkewMelds x = new SkewMelds();
    private final Model model = new Model();
    private final String run;
    private final int spread;
    private final int addShare;
    private final int heapBound;
    private int calls = 0;

    private ModelTest(int seed) {
        random = new Random(seed);
        run = "run " + seed + ", call ";
        spread = SPREADS[seed % SPREADS.length];
        addShare = 20 + random.nextInt(70);
        heapBound = 1 + random.nextInt(8);
    }

    public static void main(String[] args) {
        for (int seed = 0; seed < RUNS; seed++) {
            new ModelTest(seed).play();
        }
        Due.end();
    }

    private void play() {
        int first = random.nextInt(heapBound + 1);
        for (int i = 0; i < first; i++) {
            same("heap()", x.heap(), model.heap());
        }
        while (calls < CALLS - 1) {
            if (random.nextInt(100) < addShare) {
                add();
            } else {
                other();
            }
            if (calls < CALLS && random.nextInt(3) == 0) {
                same("few()", x.few() ? 1 : 0, 1);
            }
        }
    }

    private void same(String call, long got, long want) {
        calls++;
        Due.is(run + calls + ": " + call, got, want);
    }

    private int someHeap() {
        return random.nextInt(40) == 0 ? random.nextInt(12) - 2 : random.nextInt(heapBound);
    }

    private void add() {
        int heap = someHeap();
        int key = spread == 0 ? random.nextInt() : random.nextInt(2 * spread) - spread;
        if (random.nextInt(50) == 0) {
            key = random.nextBoolean() ? Integer.MIN_VALUE : Integer.MAX_VALUE;
        }
        same("add(" + heap + ", " + key + ")", x.add(heap, key), model.add(heap, key));
    }

    private void other() {
        int heap = someHeap();
        int second = someHeap();
        switch (random.nextInt(12)) {
            case 0 -> same("heap()", x.heap(), model.heap());
            case 1 -> same("least(" + heap + ")", x.least(heap), model.key(heap, 0));
            case 2, 3, 4, 5 -> same("take(" + heap + ")", x.take(heap), model.take(heap));
            case 6, 7 -> same("meld(" + heap + ", " + second + ")", x.meld(heap, second), model.meld(heap, second));
            case 8 -> same("size(" + heap + ")", x.size(heap), model.size(heap));
            case 9 -> key(heap);
            case 10 -> same("sum(" + heap + ")", x.sum(heap), model.sum(heap));
            default -> same("free()", x.free(), model.free());
        }
    }

    private void key(int heap) {
        int k = random.nextInt(Math.max(1, model.size(heap)) + 3) - 1;
        same("key(" + heap + ", " + k + ")", x.key(heap, k), model.key(heap, k));
    }
}
