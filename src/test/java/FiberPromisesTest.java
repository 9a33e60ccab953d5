/** Promises 1 to 8 and 19: fibers, their frames, cells and REFs. */
public final class FiberPromisesTest {
    private static void promise1NewObject() {
        FiberHeap x = new FiberHeap();
        int[] fiberZero = {1, 1, 2, 0, FiberHeap.NIL, FiberHeap.NIL, FiberHeap.NIL, FiberHeap.NIL, FiberHeap.NONE,
            FiberHeap.NONE};
        for (int what = 0; what < fiberZero.length; what++) {
            Due.is("1: fiber(0, " + what + ")", x.fiber(0, what), fiberZero[what]);
        }
        for (int f = 1; f < 6; f++) {
            Due.is("1: fiber(" + f + ", 0)", x.fiber(f, 0), 0);
        }
        int[] counts = {0, 0, 16, 16, 0, 0, 0, 0, 0, 0, 64, 0};
        for (int what = 0; what < counts.length; what++) {
            Due.is("1: count(" + what + ")", x.count(what), counts[what]);
        }
        for (int p = 0; p < 16; p++) {
            Due.is("1: page(" + p + ")", x.page(p), 0);
        }
        for (int c = 0; c < 4; c++) {
            Due.is("1: the channel is empty: take(0, 0, " + c + ", " + c + ")", x.take(0, 0, c, c), FiberHeap.WAITS);
            Due.yes("1: wake(0)", x.wake(0));
        }
        FiberHeap y = new FiberHeap();
        y.make(0, 0, 2, 0);
        Due.is("1: objects share nothing: count(0)", x.count(0), 0);
    }

    private static void promise2Spawn() {
        FiberHeap x = new FiberHeap();
        x.make(0, 2, 2, 1);
        x.make(0, 3, 2, 1);
        Due.is("2: spawn(0, 3)", x.spawn(0, 3), 1);
        int[] child = {1, 1, 2, 0, 2, FiberHeap.NIL, FiberHeap.NIL, FiberHeap.NIL, FiberHeap.NONE, FiberHeap.NONE};
        for (int what = 0; what < child.length; what++) {
            Due.is("2: fiber(1, " + what + ")", x.fiber(1, what), child[what]);
        }
        Due.is("2: REF is NONE: spawn(0, 4)", x.spawn(0, 4), FiberHeap.NONE);
        x.aim(0, 2);
        x.call(0);
        x.copy(0, 2, -1);
        Due.is("2: through the REF: spawn(0, 4)", x.spawn(0, 4), 2);
        Due.is("2: fiber(2, 4)", x.fiber(2, 4), 0);
        Due.is("2: k is -1: spawn(2, -1)", x.spawn(2, -1), 3);
        Due.is("2: fiber(3, 4)", x.fiber(3, 4), FiberHeap.NIL);
        Due.is("2: spawn(0, 0)", x.spawn(0, 0), 4);
        Due.is("2: spawn(0, 0)", x.spawn(0, 0), 5);
        Due.is("2: all six live: spawn(0, 0)", x.spawn(0, 0), FiberHeap.NONE);
        x.end(4);
        x.end(2);
        Due.is("2: the lowest that does not live: spawn(0, 0)", x.spawn(0, 0), 2);
        Due.is("2: spawn(0, 0)", x.spawn(0, 0), 4);
    }

    private static void promise2SpawnStartsAnew() {
        FiberHeap x = new FiberHeap();
        x.make(0, 0, 2, 0);
        x.spawn(0, 0);
        for (int i = 0; i < 4; i++) {
            x.aim(1, 1);
            x.call(1);
        }
        x.copy(1, 3, 0);
        x.send(0, 0, 3);
        x.take(1, 2, 3, 3);
        Due.is("2: before: fiber(1, 9)", x.fiber(1, 9), 3);
        x.collect();
        x.mark(2);
        Due.is("2: before: fiber(1, 3)", x.fiber(1, 3), 1);
        x.end(1);
        x.end(1);
        Due.is("2: spawn(0, -1)", x.spawn(0, -1), 1);
        int[] child = {1, 1, 2, 0, FiberHeap.NIL, FiberHeap.NIL, FiberHeap.NIL, FiberHeap.NIL, FiberHeap.NONE,
            FiberHeap.NONE};
        for (int what = 0; what < child.length; what++) {
            Due.is("2: anew: fiber(1, " + what + ")", x.fiber(1, what), child[what]);
        }
        Due.is("2: copies stay counted: count(8)", x.count(8), 6);
    }

    private static void promise3End() {
        FiberHeap x = new FiberHeap();
        Due.no("3: no other lives: end(0)", x.end(0));
        x.spawn(0, -1);
        Due.yes("3: end(0)", x.end(0));
        Due.is("3: fiber(0, 0)", x.fiber(0, 0), 0);
        for (int what = 1; what < 10; what++) {
            Due.is("3: fiber(0, " + what + ")", x.fiber(0, what), FiberHeap.NONE);
        }
        Due.no("3: it does not live: end(0)", x.end(0));
        Due.no("3: no other lives: end(1)", x.end(1));
        Due.no("3: call(0)", x.call(0));
    }

    private static void promise3EndOfOneThatWaits() {
        FiberHeap x = new FiberHeap();
        x.make(0, 0, 2, 0);
        for (int f = 1; f < 4; f++) {
            x.spawn(0, -1);
        }
        x.take(1, 0, 1, 2);
        x.take(2, 0, 1, 2);
        Due.yes("3: it waits to take: end(1)", x.end(1));
        Due.is("3: send(0, 0, 2)", x.send(0, 0, 2), 2);
        Due.is("3: the next was served: fiber(2, 9)", x.fiber(2, 9), 2);
        x.send(0, 0, 0);
        x.send(2, 1, 0);
        Due.yes("3: it waits to send: end(0)", x.end(0));
        Due.is("3: take(3, 3, 0, 0)", x.take(3, 3, 0, 0), 0);
        Due.is("3: the next one's pointer: fiber(3, 7)", x.fiber(3, 7), FiberHeap.NIL);
        Due.is("3: fiber(2, 0)", x.fiber(2, 0), 1);
        Due.is("3: it lives again and waits no more: spawn(2, -1)", x.spawn(2, -1), 0);
        Due.is("3: fiber(0, 0)", x.fiber(0, 0), 1);
        Due.is("3: nobody waits to send: take(3, 3, 0, 0)", x.take(3, 3, 0, 0), FiberHeap.WAITS);
    }

    private static void promise4Wake() {
        FiberHeap x = new FiberHeap();
        x.make(0, 0, 2, 0);
        x.spawn(0, 0);
        Due.no("4: it does not wait: wake(0)", x.wake(0));
        Due.no("4: it does not live: wake(2)", x.wake(2));
        x.send(0, 0, 0);
        Due.yes("4: it waits to send: wake(0)", x.wake(0));
        Due.is("4: fiber(0, 0)", x.fiber(0, 0), 1);
        Due.is("4: nothing was sent: take(1, 1, 0, 3)", x.take(1, 1, 0, 3), FiberHeap.WAITS);
        Due.yes("4: it waits to take: wake(1)", x.wake(1));
        Due.is("4: nothing was taken: fiber(1, 5)", x.fiber(1, 5), FiberHeap.NIL);
        Due.is("4: fiber(1, 9)", x.fiber(1, 9), FiberHeap.NONE);
        Due.is("4: it waits at neither: send(0, 0, 0)", x.send(0, 0, 0), FiberHeap.WAITS);
    }

    private static void promise4WakeLosesThePlace() {
        FiberHeap x = new FiberHeap();
        x.spawn(0, -1);
        x.spawn(0, -1);
        x.take(1, 0, 2, 2);
        x.take(2, 0, 2, 2);
        x.wake(1);
        x.take(1, 0, 2, 2);
        Due.is("4: send(0, 0, 2)", x.send(0, 0, 2), 2);
        Due.is("4: fiber 2 began to wait before: fiber(2, 0)", x.fiber(2, 0), 1);
        Due.is("4: fiber(1, 0)", x.fiber(1, 0), 3);
    }

    private static void promise5Call() {
        FiberHeap x = new FiberHeap();
        for (int k = 0; k < 4; k++) {
            x.make(0, k, 2, 0);
        }
        x.aim(0, 3);
        Due.yes("5: call(0)", x.call(0));
        for (int k = 0; k < 4; k++) {
            Due.is("5: fiber(0, " + (4 + k) + ")", x.fiber(0, 4 + k), 2 * k);
        }
        Due.is("5: fiber(0, 1)", x.fiber(0, 1), 2);
        Due.is("5: the REF is that of the frame before: fiber(0, 8)", x.fiber(0, 8), 3);
        Due.is("5: it fits the room: count(8)", x.count(8), 0);
        int[] rooms = {2, 2, 2, 4, 4, 8, 8, 8, 8, 16, 16, 16, 16, 16, 16, 16, 16};
        int[] copies = {0, 0, 0, 2, 2, 6, 6, 6, 6, 14, 14, 14, 14, 14, 14, 14, 14};
        for (int frames = 3; frames <= 16; frames++) {
            Due.yes("5: frame " + frames + ": call(0)", x.call(0));
            Due.is("5: frame " + frames + ": fiber(0, 1)", x.fiber(0, 1), frames);
            Due.is("5: frame " + frames + ": fiber(0, 2)", x.fiber(0, 2), rooms[frames]);
            Due.is("5: frame " + frames + ": count(8)", x.count(8), copies[frames]);
            Due.is("5: frame " + frames + ": fiber(0, 7)", x.fiber(0, 7), 6);
            Due.is("5: frame " + frames + ": fiber(0, 8)", x.fiber(0, 8), 3);
        }
        Due.no("5: it has 16 frames: call(0)", x.call(0));
        Due.is("5: fiber(0, 1)", x.fiber(0, 1), 16);
        Due.is("5: count(8)", x.count(8), 14);
    }

    private static void promise6Leave() {
        FiberHeap x = new FiberHeap();
        Due.no("6: it has one frame: leave(0)", x.leave(0));
        for (int k = 0; k < 4; k++) {
            x.make(0, k, 2, 0);
        }
        x.aim(0, 1);
        x.call(0);
        x.aim(0, 2);
        x.copy(0, 0, 3);
        x.copy(0, 1, -1);
        x.copy(0, 2, -1);
        x.copy(0, 3, -1);
        Due.is("6: before: fiber(0, 8)", x.fiber(0, 8), 6);
        Due.yes("6: leave(0)", x.leave(0));
        Due.is("6: cell 0 is the left frame's: fiber(0, 4)", x.fiber(0, 4), 6);
        Due.is("6: fiber(0, 5)", x.fiber(0, 5), 2);
        Due.is("6: fiber(0, 6)", x.fiber(0, 6), 4);
        Due.is("6: fiber(0, 7)", x.fiber(0, 7), 6);
        Due.is("6: the REF is this frame's own: fiber(0, 8)", x.fiber(0, 8), 1);
        Due.is("6: fiber(0, 1)", x.fiber(0, 1), 1);
        Due.no("6: leave(0)", x.leave(0));
        x.call(0);
        x.call(0);
        x.copy(0, 0, -1);
        x.leave(0);
        Due.is("6: with frames below: fiber(0, 4)", x.fiber(0, 4), FiberHeap.NIL);
        x.leave(0);
        Due.is("6: fiber(0, 4)", x.fiber(0, 4), FiberHeap.NIL);
        Due.is("6: the room stays: fiber(0, 2)", x.fiber(0, 2), 4);
        Due.is("6: count(8)", x.count(8), 2);
    }

    private static void promise7Aim() {
        FiberHeap x = new FiberHeap();
        for (int k = 0; k < 4; k++) {
            Due.yes("7: aim(0, " + k + ")", x.aim(0, k));
            Due.is("7: fiber(0, 8)", x.fiber(0, 8), k);
        }
        x.call(0);
        x.call(0);
        Due.yes("7: aim(0, 2)", x.aim(0, 2));
        Due.is("7: of the newest frame: fiber(0, 8)", x.fiber(0, 8), 10);
        Due.no("7: the REF is no aim: aim(0, 4)", x.aim(0, 4));
        Due.no("7: aim(0, -1)", x.aim(0, -1));
        Due.is("7: fiber(0, 8)", x.fiber(0, 8), 10);
        x.leave(0);
        Due.is("7: the frame before kept its own: fiber(0, 8)", x.fiber(0, 8), 3);
    }

    private static void promise8Copy() {
        FiberHeap x = new FiberHeap();
        x.make(0, 0, 2, 0);
        x.make(0, 1, 2, 0);
        Due.yes("8: copy(0, 3, 1)", x.copy(0, 3, 1));
        Due.is("8: fiber(0, 7)", x.fiber(0, 7), 2);
        Due.no("8: REF is NONE: copy(0, 4, 1)", x.copy(0, 4, 1));
        Due.no("8: REF is NONE: copy(0, 1, 4)", x.copy(0, 1, 4));
        x.aim(0, 2);
        x.call(0);
        Due.yes("8: into an older frame: copy(0, 4, 0)", x.copy(0, 4, 0));
        Due.is("8: not into this one: fiber(0, 6)", x.fiber(0, 6), FiberHeap.NIL);
        Due.yes("8: out of an older frame: copy(0, 1, 4)", x.copy(0, 1, 4));
        Due.is("8: fiber(0, 5)", x.fiber(0, 5), 0);
        x.leave(0);
        Due.is("8: fiber(0, 6)", x.fiber(0, 6), 0);
        Due.yes("8: NIL: copy(0, 2, -1)", x.copy(0, 2, -1));
        Due.is("8: fiber(0, 6)", x.fiber(0, 6), FiberHeap.NIL);
        Due.no("8: copy(0, 5, 0)", x.copy(0, 5, 0));
        Due.no("8: copy(0, -1, 0)", x.copy(0, -1, 0));
        Due.no("8: copy(0, 0, -2)", x.copy(0, 0, -2));
    }

    private static void promise19Fiber() {
        FiberHeap x = new FiberHeap();
        x.make(0, 0, 2, 0);
        x.spawn(0, 0);
        x.spawn(0, 0);
        x.send(1, 0, 0);
        x.take(2, 1, 1, 3);
        Due.is("19: READY: fiber(0, 0)", x.fiber(0, 0), 1);
        Due.is("19: waits to send: fiber(1, 0)", x.fiber(1, 0), 2);
        Due.is("19: waits to take: fiber(2, 0)", x.fiber(2, 0), 3);
        Due.is("19: does not live: fiber(3, 0)", x.fiber(3, 0), 0);
        Due.is("19: took none: fiber(2, 9)", x.fiber(2, 9), FiberHeap.NONE);
        x.send(0, 0, 3);
        Due.is("19: got it while it waited: fiber(2, 9)", x.fiber(2, 9), 3);
        x.take(2, 1, 0, 3);
        Due.is("19: the latest: fiber(2, 9)", x.fiber(2, 9), 0);
        Due.is("19: who sends takes nothing: fiber(1, 9)", x.fiber(1, 9), FiberHeap.NONE);
        x.collect();
        Due.is("19: not scanned: fiber(0, 3)", x.fiber(0, 3), 0);
        x.mark(2);
        Due.is("19: scanned: fiber(0, 3)", x.fiber(0, 3), 1);
        Due.is("19: scanned: fiber(1, 3)", x.fiber(1, 3), 1);
        Due.is("19: not scanned: fiber(2, 3)", x.fiber(2, 3), 0);
        x.mark(99);
        Due.is("19: at rest: fiber(0, 3)", x.fiber(0, 3), 0);
        for (int f = 0; f < 6; f += 3) {
            Due.is("19: fiber(" + f + ", 10)", x.fiber(f, 10), FiberHeap.NONE);
            Due.is("19: fiber(" + f + ", -1)", x.fiber(f, -1), FiberHeap.NONE);
        }
        for (int what = 0; what < 10; what++) {
            Due.is("19: fiber(-1, " + what + ")", x.fiber(-1, what), FiberHeap.NONE);
            Due.is("19: fiber(6, " + what + ")", x.fiber(6, what), FiberHeap.NONE);
        }
    }

    public static void main(String[] args) {
        promise1NewObject();
        promise2Spawn();
        promise2SpawnStartsAnew();
        promise3End();
        promise3EndOfOneThatWaits();
        promise4Wake();
        promise4WakeLosesThePlace();
        promise5Call();
        promise6Leave();
        promise7Aim();
        promise8Copy();
        promise19Fiber();
        Due.close();
    }
}
