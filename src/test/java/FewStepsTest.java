import java.io.IOException;
import java.nio.file.Files;
import java.nio.file.Path;
import java.util.Random;

/**
 * Promise 11 from the inside: the steps that the object counts are real, few() tells of them, and they
 * keep to the document's bounds. few() answers true on every run of a sound program, so the count
 * itself has to be looked at.
 */
public final class FewStepsTest {
    private static final int CELLS = 200;
    // Filling asks 400 calls, and an object has 512.
    private static final int TAKES = 25;

    private final SkewMelds x = new SkewMelds();
    private final int[] sizes = new int[8];
    private int used = 0;

    public static void main(String[] args) throws IOException {
        rowIsTouchedInTwoPlacesOnly();
        fewTellsTheBound();
        fewTellsOfTheLatestCallOnly();
        for (int seed = 0; seed < 2000; seed++) {
            new FewStepsTest().randomRun(new Random(seed));
        }
        for (int n = 0; n <= CELLS; n++) {
            new FewStepsTest().fillAndEmpty(n, 1);
            new FewStepsTest().fillAndEmpty(n, -1);
            new FewStepsTest().fillAndEmpty(n, 0);
            new FewStepsTest().meldHalves(n);
        }
        Due.end();
    }

    private static void rowIsTouchedInTwoPlacesOnly() throws IOException {
        String source = Files.readString(Path.of("src/main/java/SkewMelds.java"));
        Due.is("how often the source touches an element of the row", source.split("row\\[", -1).length - 1, 2);
        Due.is("how many rows the source makes", source.split("new int\\[", -1).length - 1, 1);
        Due.holds("the source copies or fills no row uncounted",
                !source.contains("Arrays.") && !source.contains("arraycopy") && !source.contains("clone"));
    }

    /** The document's bound, worked out in another way than the program does. */
    private static int bound(int keys) {
        return 200 * (2 + (31 - Integer.numberOfLeadingZeros(keys + 1)));
    }

    private static void fewAt(String call, SkewMelds x, int bound) {
        Due.holds(call + " takes some steps", Steps.of(x) > 0);
        Steps.set(x, bound);
        Due.is("few() at the bound of " + call, x.few(), true);
    }

    private static void notFewBeyond(String call, SkewMelds x, int bound) {
        Steps.set(x, bound + 1);
        Due.is("few() beyond the bound of " + call, x.few(), false);
        Due.is("few() after that few()", x.few(), true);
    }

    private static void fewTellsTheBound() {
        for (int keys = 0; keys < CELLS; keys++) {
            SkewMelds x = new SkewMelds();
            x.heap();
            x.heap();
            for (int i = 0; i < keys; i++) {
                x.add(i % 2, i);
            }
            fewTellsTheBoundWith(x, keys);
        }
    }

    private static void fewTellsTheBoundWith(SkewMelds x, int keys) {
        x.meld(0, 1);
        fewAt("meld", x, bound(keys));
        x.meld(1, 0);
        notFewBeyond("meld", x, bound(keys));
        x.least(1);
        fewAt("least", x, bound(keys));
        x.least(1);
        notFewBeyond("least", x, bound(keys));
        x.add(1, keys);
        fewAt("add", x, 100);
        x.take(1);
        fewAt("take", x, bound(keys + 1));
        x.add(1, keys);
        notFewBeyond("add", x, 100);
        x.take(1);
        notFewBeyond("take", x, bound(keys + 1));
    }

    private static void fewTellsOfTheLatestCallOnly() {
        SkewMelds x = new SkewMelds();
        x.heap();
        for (int other = 0; other < 5; other++) {
            x.add(0, 1);
            Steps.set(x, 101);
            switch (other) {
                case 0 -> x.heap();
                case 1 -> x.size(0);
                case 2 -> x.key(0, 0);
                case 3 -> x.sum(0);
                default -> x.free();
            }
            Due.is("few() after another call " + other, x.few(), true);
        }
        x.add(0, 1);
        Steps.set(x, 101);
        x.add(9, 1);
        Due.is("few() after a refused call", x.few(), true);
    }

    private void few(String call, int bound) {
        Due.holds(call + " took " + Steps.of(x) + " steps, " + bound + " at most", Steps.of(x) <= bound);
        Due.is("few() after " + call, x.few(), true);
    }

    private void add(int heap, int key) {
        int before = used;
        x.add(heap, key);
        few("add to " + sizes[heap] + " keys", 100);
        if (before < CELLS) {
            sizes[heap]++;
            used++;
        }
    }

    private void least(int heap) {
        x.least(heap);
        few("least of " + sizes[heap] + " keys", bound(sizes[heap]));
    }

    private void take(int heap) {
        x.take(heap);
        few("take from " + sizes[heap] + " keys", bound(sizes[heap]));
        if (sizes[heap] > 0) {
            sizes[heap]--;
            used--;
        }
    }

    private void meld(int to, int from) {
        x.meld(to, from);
        few("meld of " + sizes[to] + " and " + sizes[from] + " keys", bound(sizes[to] + sizes[from]));
        if (to != from) {
            sizes[to] += sizes[from];
            sizes[from] = 0;
        }
    }

    private void makeHeaps() {
        for (int i = 0; i < 8; i++) {
            x.heap();
        }
    }

    private void randomRun(Random random) {
        makeHeaps();
        int addShare = 4 + random.nextInt(6);
        int heaps = 1 + random.nextInt(8);
        int kinds = 2 + random.nextInt(2);
        for (int i = 0; i < 250; i++) {
            int heap = random.nextInt(heaps);
            if (random.nextInt(10) < addShare) {
                add(heap, random.nextInt(1000));
                continue;
            }
            switch (random.nextInt(kinds)) {
                case 0 -> take(heap);
                case 1 -> least(heap);
                default -> meld(heap, random.nextInt(heaps));
            }
        }
    }

    private void fillAndEmpty(int n, int slope) {
        makeHeaps();
        for (int i = 0; i < n; i++) {
            add(0, slope * i);
        }
        for (int i = 0; i < TAKES; i++) {
            least(0);
            take(0);
        }
    }

    private void meldHalves(int n) {
        makeHeaps();
        for (int i = 0; i < n; i++) {
            add(i % 2, i * 7919 % 211);
        }
        take(0);
        meld(0, 1);
        meld(1, 0);
        add(0, 5);
        take(1);
        meld(1, 0);
    }
}
