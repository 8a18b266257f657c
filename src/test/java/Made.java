/** Objects in the states that the tests begin with. */
final class Made {
    static final int CELLS = 200;
    static final int HEAPS = 8;
    static final int CALLS = 512;
    static final long NO_KEY = Long.MIN_VALUE;

    private Made() {
    }

    static SkewMelds withHeaps(int heaps) {
        SkewMelds x = new SkewMelds();
        for (int i = 0; i < heaps; i++) {
            x.heap();
        }
        return x;
    }

    /** Two heaps, the first one with these keys. */
    static SkewMelds withKeys(int... keys) {
        SkewMelds x = withHeaps(2);
        for (int key : keys) {
            x.add(0, key);
        }
        return x;
    }

    /** So many heaps that share so many keys in turn: 0 to the first one, 1 to the second one ... */
    static SkewMelds shared(int heaps, int keys) {
        SkewMelds x = withHeaps(heaps);
        for (int i = 0; i < keys; i++) {
            x.add(i % heaps, i);
        }
        return x;
    }

    /** Numbers that are no heap's when there are so many: next to the edges, and far off. */
    static int[] notAmong(int heaps) {
        return new int[] {-1, -2, heaps, heaps + 1, HEAPS, CELLS, 256, 1 << 16, 1 << 29,
            Integer.MIN_VALUE, Integer.MIN_VALUE + heaps, Integer.MAX_VALUE};
    }
}
