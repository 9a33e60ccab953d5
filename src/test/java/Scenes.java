/** States that several tests begin with. */
final class Scenes {
    static final int MIN = Integer.MIN_VALUE;
    static final int MAX = Integer.MAX_VALUE;

    private Scenes() {
    }

    /** A list of so many objects of so many words, word 0 points to the one before; cell 0 of fiber 0 holds the last. */
    static FiberHeap list(int length, int words) {
        FiberHeap x = new FiberHeap();
        for (int i = 0; i < length; i++) {
            x.make(0, 1, words, 1);
            x.set(0, 1, 0, 0);
            x.copy(0, 0, 1);
        }
        x.copy(0, 1, -1);
        return x;
    }

    /** All six fibers live; cell 0 of fiber f holds an object of 2 words, whose address is 2 * f. */
    static FiberHeap sixFibers() {
        FiberHeap x = new FiberHeap();
        for (int f = 1; f < 6; f++) {
            x.spawn(0, -1);
        }
        for (int f = 0; f < 6; f++) {
            x.make(f, 0, 2, 1);
        }
        return x;
    }

    /** Objects of so many words, placed one behind the other, in the cells 0 to 3 of as many frames as they need. */
    static FiberHeap inARow(int... words) {
        FiberHeap x = new FiberHeap();
        for (int i = 0; i < words.length; i++) {
            if (i > 0 && i % 4 == 0) {
                x.call(0);
            }
            x.make(0, i % 4, words[i], 0);
        }
        return x;
    }

    /** Whatever marking is under way ends, and nothing is unswept then; what could not be reached may be left. */
    static void settle(FiberHeap x) {
        x.mark(MAX);
        x.sweep(16);
    }

    /** A whole cycle, so that only what can be reached is left. */
    static void cleanUp(FiberHeap x) {
        x.mark(MAX);
        x.collect();
        settle(x);
    }

    static void pages(FiberHeap x, int... due) {
        for (int p = 0; p < due.length; p++) {
            Due.is("page(" + p + ")", x.page(p), due[p]);
        }
    }
}
