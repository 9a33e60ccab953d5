import java.util.Arrays;

/** Wrong inputs: each refused call has the answer of refusal and changes nothing that can be seen. */
public final class RefusalsTest {
    private static final int MIN = Integer.MIN_VALUE;
    private static final int MAX = Integer.MAX_VALUE;
    private static final int[] NO_READY_FIBERS = {MIN, -1, 1, 2, 3, 6, MAX};
    private static final int[] NO_CELLS = {MIN, -2, -1, 5, MAX};
    private static final int[] NO_SOURCES = {MIN, -2, 5, MAX};
    private static final int[] NO_CHANNELS = {MIN, -1, 4, MAX};

    private static FiberHeap x;
    private static int[] before;

    // Fiber 0 is ready, 1 waits to send, 2 waits to take, 3 does not live, 4 and 5 are ready; marking has begun.
    private static void prepare() {
        x = new FiberHeap();
        for (int f = 1; f < 6; f++) {
            x.spawn(0, -1);
        }
        x.make(0, 0, 6, 2);
        x.make(1, 0, 6, 2);
        x.make(2, 0, 6, 2);
        x.set(0, 0, 1, 0);
        x.store(0, 0, 5, 99);
        x.send(1, 0, 0);
        x.take(2, 0, 1, 2);
        x.end(3);
        x.collect();
        x.mark(2);
        before = Seen.of(x);
    }

    private static void refused(String call, int got, int want) {
        Due.is(call, got, want);
        int[] after = Seen.of(x);
        for (int i = 0; i < after.length; i++) {
            if (after[i] != before[i]) {
                Due.is(call + ": then " + Seen.question(i), after[i], before[i]);
            }
        }
        if (!Arrays.equals(after, before)) {
            prepare();
        }
    }

    private static void refused(String call, boolean got) {
        refused(call, got ? 1 : 0, 0);
    }

    private static void whoIsNotReady(int f) {
        refused("2: spawn(" + f + ", 0)", x.spawn(f, 0), FiberHeap.NONE);
        refused("5: call(" + f + ")", x.call(f));
        refused("6: leave(" + f + ")", x.leave(f));
        refused("7: aim(" + f + ", 0)", x.aim(f, 0));
        refused("8: copy(" + f + ", 1, 0)", x.copy(f, 1, 0));
        refused("9: make(" + f + ", 1, 2, 0)", x.make(f, 1, 2, 0), FiberHeap.NONE);
        refused("10: set(" + f + ", 0, 0, 0)", x.set(f, 0, 0, 0));
        refused("11: get(" + f + ", 1, 0, 0)", x.get(f, 1, 0, 0));
        refused("12: store(" + f + ", 0, 3, 8)", x.store(f, 0, 3, 8));
        refused("13: load(" + f + ", 0, 5)", x.load(f, 0, 5), 0);
        refused("14: send(" + f + ", 0, 3)", x.send(f, 0, 3), FiberHeap.NONE);
        refused("15: take(" + f + ", 0, 0, 3)", x.take(f, 0, 0, 3), FiberHeap.NONE);
    }

    private static void whatIsNoCell(int k) {
        refused("8: copy(0, " + k + ", 0)", x.copy(0, k, 0));
        refused("9: make(0, " + k + ", 2, 0)", x.make(0, k, 2, 0), FiberHeap.NONE);
        refused("10: set(0, " + k + ", 0, 0)", x.set(0, k, 0, 0));
        refused("11: get(0, " + k + ", 0, 0)", x.get(0, k, 0, 0));
        refused("11: get(0, 1, " + k + ", 0)", x.get(0, 1, k, 0));
        refused("12: store(0, " + k + ", 3, 8)", x.store(0, k, 3, 8));
        refused("13: load(0, " + k + ", 5)", x.load(0, k, 5), 0);
        refused("14: send(0, " + k + ", 3)", x.send(0, k, 3), FiberHeap.NONE);
        refused("15: take(0, " + k + ", 0, 3)", x.take(0, k, 0, 3), FiberHeap.NONE);
    }

    private static void whatIsNoSource(int k) {
        refused("2: spawn(0, " + k + ")", x.spawn(0, k), FiberHeap.NONE);
        refused("8: copy(0, 1, " + k + ")", x.copy(0, 1, k));
        refused("10: set(0, 0, 0, " + k + ")", x.set(0, 0, 0, k));
        refused("7: aim(0, " + k + ")", x.aim(0, k));
    }

    private static void otherWrongNumbers() {
        int[][] sizes = {{0, 0}, {-1, 0}, {65, 0}, {MIN, 0}, {MAX, 0}, {2, 3}, {2, -1}, {64, 65}, {1, MIN}, {1, MAX},
            {0, -1}, {-1, -1}};
        for (int[] s : sizes) {
            refused("9: make(0, 0, " + s[0] + ", " + s[1] + ")", x.make(0, 0, s[0], s[1]), FiberHeap.NONE);
        }
        for (int w : new int[] {MIN, -1, 2, 5, 6, MAX}) {
            refused("10: set(0, 0, " + w + ", 0)", x.set(0, 0, w, 0));
            refused("11: get(0, 1, 0, " + w + ")", x.get(0, 1, 0, w));
        }
        for (int w : new int[] {MIN, -1, 0, 1, 6, 7, 8, MAX}) {
            refused("12: store(0, 0, " + w + ", 4)", x.store(0, 0, w, 4));
            refused("13: load(0, 0, " + w + ")", x.load(0, 0, w), 0);
        }
        for (int c : NO_CHANNELS) {
            refused("14: send(0, 0, " + c + ")", x.send(0, 0, c), FiberHeap.NONE);
            refused("15: take(0, 1, " + c + ", 0)", x.take(0, 1, c, 0), FiberHeap.NONE);
            refused("15: take(0, 1, 0, " + c + ")", x.take(0, 1, 0, c), FiberHeap.NONE);
        }
        for (int f : new int[] {MIN, -1, 3, 6, MAX}) {
            refused("3: end(" + f + ")", x.end(f));
            refused("4: wake(" + f + ")", x.wake(f));
        }
        refused("4: wake(0)", x.wake(0));
        refused("7: aim(0, 4)", x.aim(0, 4));
        refused("18: collect()", x.collect());
        for (int n : new int[] {MIN, -1, 0}) {
            refused("16: mark(" + n + ")", x.mark(n), 0);
            refused("17: sweep(" + n + ")", x.sweep(n), 0);
        }
    }

    public static void main(String[] args) {
        prepare();
        for (int f : NO_READY_FIBERS) {
            whoIsNotReady(f);
        }
        for (int k : NO_CELLS) {
            whatIsNoCell(k);
        }
        for (int k : NO_SOURCES) {
            whatIsNoSource(k);
        }
        // The REF is NONE.
        whatIsNoCell(4);
        whatIsNoSource(4);
        otherWrongNumbers();
        Due.is("12: nothing was stored: load(0, 0, 5)", x.load(0, 0, 5), 99);
        Due.yes("11: get(0, 1, 0, 1)", x.get(0, 1, 0, 1));
        Due.is("10: nothing was set: fiber(0, 5)", x.fiber(0, 5), 0);
        Due.yes("11: get(0, 1, 0, 0)", x.get(0, 1, 0, 0));
        Due.is("10: nothing was set: fiber(0, 5)", x.fiber(0, 5), FiberHeap.NIL);
        Due.close();
    }
}
