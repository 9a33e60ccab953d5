/** Promises 14 and 15: send and take. */
public final class ChannelPromisesTest {
    // Fibers 0 to 5 live; cell 0 of fiber f holds 2 * f.
    private static FiberHeap withFibers() {
        FiberHeap x = new FiberHeap();
        for (int f = 1; f < 6; f++) {
            x.spawn(0, -1);
        }
        for (int f = 0; f < 6; f++) {
            x.make(f, 0, 2, 1);
        }
        return x;
    }

    private static void promise14Fills() {
        for (int c = 0; c < 4; c++) {
            FiberHeap x = withFibers();
            for (int i = 0; i < c; i++) {
                Due.is("14: " + i + " held: send(" + i + ", 0, " + c + ")", x.send(i, 0, c), c);
                Due.is("14: fiber(" + i + ", 0)", x.fiber(i, 0), 1);
            }
            Due.is("14: it is full: send(4, 0, " + c + ")", x.send(4, 0, c), FiberHeap.WAITS);
            Due.is("14: fiber(4, 0)", x.fiber(4, 0), 2);
            Due.is("14: it waits: send(4, 0, 3)", x.send(4, 0, 3), FiberHeap.NONE);
            for (int i = 0; i < c; i++) {
                Due.is("15: in their order: take(5, 1, " + c + ", 0)", x.take(5, 1, c, c), c);
                Due.is("15: fiber(5, 5)", x.fiber(5, 5), 2 * i);
                Due.is("15: the first gave room for fiber 4: fiber(4, 0)", x.fiber(4, 0), 1);
            }
            Due.is("15: take(5, 1, " + c + ", 0)", x.take(5, 1, c, c), c);
            Due.is("15: what waited came last: fiber(5, 5)", x.fiber(5, 5), 8);
            Due.is("15: it is empty: take(5, 1, " + c + ", " + c + ")", x.take(5, 1, c, c), FiberHeap.WAITS);
        }
    }

    private static void promise14ServesTheFirst() {
        FiberHeap x = withFibers();
        x.take(3, 1, 2, 0);
        x.take(1, 2, 1, 2);
        x.take(2, 3, 2, 2);
        Due.is("14: send(0, 0, 2)", x.send(0, 0, 2), 2);
        Due.is("14: the first to wait, not the lowest: fiber(3, 5)", x.fiber(3, 5), 0);
        Due.is("14: it is READY: fiber(3, 0)", x.fiber(3, 0), 1);
        Due.is("14: the sender too: fiber(0, 0)", x.fiber(0, 0), 1);
        Due.is("14: others wait on: fiber(1, 0)", x.fiber(1, 0), 3);
        Due.is("14: send(4, 0, 2)", x.send(4, 0, 2), 2);
        Due.is("14: fiber(1, 6)", x.fiber(1, 6), 8);
        Due.is("14: fiber(1, 9)", x.fiber(1, 9), 2);
        Due.is("14: NIL too: send(0, 1, 2)", x.send(0, 1, 2), 2);
        Due.is("14: fiber(2, 7)", x.fiber(2, 7), FiberHeap.NIL);
        Due.is("14: fiber(2, 9)", x.fiber(2, 9), 2);
        Due.is("14: nobody waits: send(0, 0, 1)", x.send(0, 0, 1), 1);
        Due.is("14: it went into the channel: take(5, 3, 1, 1)", x.take(5, 3, 1, 1), 1);
        Due.is("14: fiber(5, 7)", x.fiber(5, 7), 0);
    }

    private static void promise14And15ThroughTheRef() {
        FiberHeap x = withFibers();
        Due.is("14: REF is NONE: send(0, 4, 3)", x.send(0, 4, 3), FiberHeap.NONE);
        Due.is("15: REF is NONE: take(1, 4, 3, 3)", x.take(1, 4, 3, 3), FiberHeap.NONE);
        x.aim(0, 0);
        x.call(0);
        x.copy(0, 0, -1);
        x.aim(1, 2);
        x.call(1);
        Due.is("14: send(0, 4, 3)", x.send(0, 4, 3), 3);
        Due.is("15: take(1, 4, 3, 3)", x.take(1, 4, 3, 3), 3);
        Due.is("15: not into the newest frame: fiber(1, 6)", x.fiber(1, 6), FiberHeap.NIL);
        x.leave(1);
        Due.is("15: but into the older one: fiber(1, 6)", x.fiber(1, 6), 0);
        x.call(1);
        x.take(1, 4, 0, 0);
        Due.is("14: send(5, 0, 0)", x.send(5, 0, 0), 0);
        x.leave(1);
        Due.is("14: into the cell for which it waits: fiber(1, 6)", x.fiber(1, 6), 10);
        x.send(0, 4, 0);
        Due.is("15: take(2, 1, 0, 0)", x.take(2, 1, 0, 0), 0);
        Due.is("15: from the cell it waits with: fiber(2, 5)", x.fiber(2, 5), 0);
    }

    private static void promise15ChoosesTheChannel() {
        FiberHeap x = withFibers();
        x.send(1, 0, 1);
        x.send(2, 0, 2);
        Due.is("15: c gives: take(0, 1, 2, 1)", x.take(0, 1, 2, 1), 2);
        Due.is("15: fiber(0, 5)", x.fiber(0, 5), 4);
        Due.is("15: fiber(0, 9)", x.fiber(0, 9), 2);
        Due.is("15: c gives none: take(0, 1, 2, 1)", x.take(0, 1, 2, 1), 1);
        Due.is("15: fiber(0, 5)", x.fiber(0, 5), 2);
        Due.is("15: fiber(0, 9)", x.fiber(0, 9), 1);
        x.send(3, 0, 0);
        Due.is("15: from one that waits: take(0, 1, 3, 0)", x.take(0, 1, 3, 0), 0);
        Due.is("15: fiber(0, 5)", x.fiber(0, 5), 6);
        Due.is("15: fiber(3, 0)", x.fiber(3, 0), 1);
        Due.is("15: neither gives: take(0, 1, 3, 0)", x.take(0, 1, 3, 0), FiberHeap.WAITS);
        Due.is("15: fiber(0, 0)", x.fiber(0, 0), 3);
        Due.is("15: the cell stays: fiber(0, 5)", x.fiber(0, 5), 6);
        Due.is("15: send(1, 0, 3)", x.send(1, 0, 3), 3);
        Due.is("15: fiber(0, 5)", x.fiber(0, 5), 2);
        Due.is("15: it waits at 0 no more: send(2, 0, 0)", x.send(2, 0, 0), FiberHeap.WAITS);
    }

    private static void promise15SendersInOrder() {
        FiberHeap x = withFibers();
        x.send(5, 0, 1);
        x.send(4, 0, 1);
        x.send(2, 0, 1);
        x.send(3, 0, 1);
        int[] due = {10, 8, 4, 6};
        int[] ready = {4, 2, 3};
        for (int i = 0; i < 4; i++) {
            Due.is("15: take(0, 3, 1, 2)", x.take(0, 3, 1, 2), 1);
            Due.is("15: fiber(0, 7)", x.fiber(0, 7), due[i]);
            for (int j = 0; j < 3; j++) {
                Due.is("15: take " + i + ": fiber(" + ready[j] + ", 0)", x.fiber(ready[j], 0), j <= i ? 1 : 2);
            }
        }
        x.send(5, 0, 0);
        x.send(1, 0, 0);
        Due.is("15: take(0, 3, 0, 0)", x.take(0, 3, 0, 0), 0);
        Due.is("15: fiber(0, 7)", x.fiber(0, 7), 10);
        Due.is("15: fiber(5, 0)", x.fiber(5, 0), 1);
        Due.is("15: fiber(1, 0)", x.fiber(1, 0), 2);
    }

    private static void promise15OneThatWaitsToTakeAtBoth() {
        FiberHeap x = withFibers();
        Due.is("15: c and d are the same: take(1, 1, 3, 3)", x.take(1, 1, 3, 3), FiberHeap.WAITS);
        Due.is("15: send(0, 0, 3)", x.send(0, 0, 3), 3);
        Due.is("15: fiber(1, 5)", x.fiber(1, 5), 0);
        Due.is("15: send(2, 0, 3)", x.send(2, 0, 3), 3);
        Due.is("15: it got one alone: fiber(1, 5)", x.fiber(1, 5), 0);
        x.take(4, 1, 0, 1);
        Due.is("15: send(5, 0, 1)", x.send(5, 0, 1), 1);
        Due.is("15: at the second: fiber(4, 9)", x.fiber(4, 9), 1);
        x.take(4, 1, 0, 1);
        Due.is("15: send(5, 0, 0)", x.send(5, 0, 0), 0);
        Due.is("15: at the first: fiber(4, 9)", x.fiber(4, 9), 0);
    }

    public static void main(String[] args) {
        promise14Fills();
        promise14ServesTheFirst();
        promise14And15ThroughTheRef();
        promise15ChoosesTheChannel();
        promise15SendersInOrder();
        promise15OneThatWaitsToTakeAtBoth();
        Due.close();
    }
}
