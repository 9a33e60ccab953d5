/** Promises 16 to 18, and what CYCLES and PIECES OF WORK say in the document's terms. */
public final class CollectorPromisesTest {
    private static void promise16Mark() {
        FiberHeap x = new FiberHeap();
        Due.is("16: at rest: mark(5)", x.mark(5), 0);
        x.make(0, 0, 2, 2);
        x.make(0, 1, 2, 2);
        x.make(0, 2, 2, 2);
        x.set(0, 0, 0, 1);
        x.set(0, 1, 0, 2);
        x.copy(0, 1, -1);
        x.copy(0, 2, -1);
        x.spawn(0, -1);
        x.collect();
        Due.is("16: mark(0)", x.mark(0), 0);
        Due.is("16: mark(-1)", x.mark(-1), 0);
        Due.is("16: mark(MIN)", x.mark(Integer.MIN_VALUE), 0);
        Due.is("16: count(7)", x.count(7), 0);
        Due.is("16: mark(1)", x.mark(1), 1);
        Due.is("16: the lowest first: fiber(0, 3)", x.fiber(0, 3), 1);
        Due.is("16: fiber(1, 3)", x.fiber(1, 3), 0);
        Due.is("16: mark(2)", x.mark(2), 2);
        Due.is("16: fibers before objects: fiber(1, 3)", x.fiber(1, 3), 1);
        Due.is("16: count(4)", x.count(4), 1);
        Due.is("16: mark(MAX)", x.mark(Integer.MAX_VALUE), 2);
        Due.is("16: count(7)", x.count(7), 5);
        Due.is("16: marking ended: count(4)", x.count(4), 0);
        Due.is("16: mark(1)", x.mark(1), 0);
        Due.is("16: count(7)", x.count(7), 5);
        x.collect();
        Due.is("16: just enough: mark(5)", x.mark(5), 5);
        Due.is("16: marking ended with it: count(4)", x.count(4), 0);
    }

    private static void promise16EndsWithoutWork() {
        FiberHeap x = new FiberHeap();
        x.spawn(0, -1);
        x.collect();
        x.mark(1);
        x.end(1);
        Due.is("16: no call but a work ends it: count(4)", x.count(4), 1);
        Due.is("16: mark(0)", x.mark(0), 0);
        Due.is("16: count(4)", x.count(4), 1);
        Due.is("16: no work is left: mark(1)", x.mark(1), 0);
        Due.is("16: count(4)", x.count(4), 0);
    }

    private static void promise16FreesCycles() {
        FiberHeap x = new FiberHeap();
        x.make(0, 0, 2, 1);
        x.make(0, 1, 2, 1);
        x.set(0, 0, 0, 1);
        x.set(0, 1, 0, 0);
        x.copy(0, 0, -1);
        x.collect();
        Due.is("16: a ring: mark(9)", x.mark(9), 3);
        x.sweep(9);
        Due.is("16: count(0)", x.count(0), 2);
        x.copy(0, 1, -1);
        x.collect();
        Due.is("16: mark(9)", x.mark(9), 1);
        Due.is("16: sweep(9)", x.sweep(9), 1);
        Due.is("16: count(0)", x.count(0), 0);
        Due.is("16: count(11)", x.count(11), 2);
        Due.is("16: page(0)", x.page(0), 0);
    }

    private static void promise16ScansOlderFrames() {
        FiberHeap x = new FiberHeap();
        x.make(0, 3, 2, 0);
        x.call(0);
        x.call(0);
        x.copy(0, 3, -1);
        x.leave(0);
        x.copy(0, 3, -1);
        x.collect();
        Due.is("16: the oldest frame has it: mark(9)", x.mark(9), 2);
        x.sweep(9);
        Due.is("16: count(0)", x.count(0), 1);
        x.leave(0);
        x.copy(0, 3, -1);
        x.collect();
        Due.is("16: frames that are gone have nothing: mark(9)", x.mark(9), 1);
    }

    private static void promise16Shrinks() {
        FiberHeap x = new FiberHeap();
        for (int i = 0; i < 8; i++) {
            x.call(0);
        }
        Due.is("16: fiber(0, 2)", x.fiber(0, 2), 16);
        Due.is("16: count(8)", x.count(8), 14);
        for (int i = 0; i < 4; i++) {
            x.leave(0);
        }
        x.collect();
        x.mark(1);
        Due.is("16: 5 are more than a quarter of 16: fiber(0, 2)", x.fiber(0, 2), 16);
        x.leave(0);
        x.collect();
        x.mark(1);
        Due.is("16: 4 are a quarter: fiber(0, 2)", x.fiber(0, 2), 8);
        Due.is("16: count(8)", x.count(8), 18);
        x.leave(0);
        x.leave(0);
        x.leave(0);
        x.collect();
        x.mark(1);
        Due.is("16: halved once: fiber(0, 2)", x.fiber(0, 2), 4);
        Due.is("16: count(8)", x.count(8), 19);
        x.collect();
        x.mark(1);
        Due.is("16: fiber(0, 2)", x.fiber(0, 2), 2);
        Due.is("16: count(8)", x.count(8), 20);
        x.collect();
        x.mark(1);
        Due.is("16: never below 2: fiber(0, 2)", x.fiber(0, 2), 2);
        Due.is("16: count(8)", x.count(8), 20);
    }

    private static void notesWhatSetTakesAway() {
        FiberHeap x = new FiberHeap();
        x.make(0, 0, 2, 1);
        x.make(0, 1, 2, 0);
        x.set(0, 0, 0, 1);
        x.copy(0, 1, -1);
        x.collect();
        x.mark(1);
        x.set(0, 0, 0, -1);
        Due.is("16: the word's pointer before set: mark(9)", x.mark(9), 2);
        x.sweep(9);
        Due.is("16: count(0)", x.count(0), 2);
    }

    private static void notesWhatSetPutsIn() {
        FiberHeap x = new FiberHeap();
        x.make(0, 0, 2, 1);
        x.spawn(0, 0);
        x.make(1, 1, 2, 0);
        x.collect();
        x.mark(1);
        x.set(1, 0, 0, 1);
        x.copy(1, 1, -1);
        Due.is("16: the word's pointer after set: mark(9)", x.mark(9), 3);
        x.sweep(9);
        Due.is("16: count(0)", x.count(0), 2);
    }

    private static void notesWhatSetPutsIntoANewObject() {
        FiberHeap x = new FiberHeap();
        x.spawn(0, -1);
        x.spawn(0, -1);
        x.make(2, 0, 2, 0);
        x.collect();
        x.make(2, 1, 1, 1);
        Due.is("16: fiber 2 is not scanned: fiber(2, 3)", x.fiber(2, 3), 0);
        x.set(2, 1, 0, 0);
        x.copy(2, 0, -1);
        Due.is("16: what a NEW object points to: mark(9)", x.mark(9), 2);
        x.sweep(9);
        Due.is("16: count(0)", x.count(0), 2);
    }

    private static void takeAloneNotesNothing() {
        FiberHeap x = new FiberHeap();
        x.make(0, 0, 2, 0);
        x.copy(0, 0, -1);
        x.send(0, 0, 1);
        x.collect();
        x.take(0, 0, 1, 1);
        Due.is("16: a NIL was taken: mark(9)", x.mark(9), 1);
    }

    private static void notesOnlyASetThatIsDone() {
        FiberHeap x = new FiberHeap();
        x.spawn(0, -1);
        x.make(1, 0, 2, 1);
        x.collect();
        x.mark(1);
        x.set(1, 0, 1, 0);
        x.set(1, 0, 0, 7);
        x.set(1, 1, 0, 0);
        x.end(1);
        Due.is("16: refused sets note nothing: mark(9)", x.mark(9), 0);
        Due.is("16: count(4)", x.count(4), 0);
        x.sweep(9);
        Due.is("16: count(0)", x.count(0), 0);
    }

    private static void notesTheChannels() {
        FiberHeap x = new FiberHeap();
        x.make(0, 0, 2, 0);
        x.make(0, 1, 2, 0);
        x.send(0, 0, 3);
        x.copy(0, 0, -1);
        x.send(0, 0, 3);
        x.send(0, 1, 3);
        x.copy(0, 1, -1);
        x.collect();
        Due.is("16: what is in a channel when it begins: mark(9)", x.mark(9), 3);
        x.sweep(9);
        Due.is("16: count(0)", x.count(0), 2);
        x.take(0, 0, 3, 3);
        x.take(0, 0, 3, 3);
        x.collect();
        x.make(0, 2, 2, 0);
        x.take(0, 0, 3, 3);
        x.copy(0, 0, -1);
        x.copy(0, 2, -1);
        x.mark(9);
        x.sweep(9);
        Due.is("16: one NEW, one noted: count(0)", x.count(0), 2);
    }

    private static void notesWhatEntersAChannel() {
        FiberHeap x = new FiberHeap();
        x.spawn(0, -1);
        x.make(1, 0, 2, 0);
        x.collect();
        x.mark(1);
        x.send(1, 0, 1);
        x.end(1);
        Due.is("16: sent into a channel: mark(9)", x.mark(9), 1);
        x = new FiberHeap();
        x.spawn(0, -1);
        x.make(1, 0, 2, 0);
        x.send(0, 0, 1);
        x.collect();
        x.mark(1);
        x.send(1, 0, 1);
        Due.is("16: it waits, nothing is noted: fiber(1, 0)", x.fiber(1, 0), 2);
        x.take(0, 0, 1, 1);
        x.end(1);
        Due.is("16: it entered the channel: mark(9)", x.mark(9), 1);
        x = new FiberHeap();
        x.spawn(0, -1);
        x.make(1, 0, 2, 0);
        x.collect();
        x.mark(1);
        x.send(1, 0, 0);
        x.end(1);
        Due.is("16: one that only waited: mark(9)", x.mark(9), 0);
    }

    private static void notesWhatGoesToAnotherFiber() {
        FiberHeap x = new FiberHeap();
        x.spawn(0, -1);
        x.make(1, 0, 2, 0);
        x.take(0, 0, 2, 2);
        x.collect();
        x.mark(1);
        x.send(1, 0, 2);
        x.end(1);
        x.copy(0, 0, -1);
        Due.is("16: to one that waited to take: mark(9)", x.mark(9), 1);
        x = new FiberHeap();
        x.spawn(0, -1);
        x.make(1, 0, 2, 0);
        x.collect();
        x.mark(1);
        x.send(1, 0, 0);
        x.take(0, 1, 0, 0);
        x.end(1);
        x.copy(0, 1, -1);
        Due.is("16: from one that waited to send: mark(9)", x.mark(9), 1);
    }

    private static void spawnNotesNothing() {
        FiberHeap x = new FiberHeap();
        x.spawn(0, -1);
        x.make(1, 0, 2, 0);
        x.collect();
        x.mark(1);
        x.spawn(1, 0);
        x.end(1);
        Due.is("16: the new fiber is not scanned: fiber(2, 3)", x.fiber(2, 3), 0);
        x.copy(2, 0, -1);
        Due.is("16: it alone is left: mark(9)", x.mark(9), 1);
        x.sweep(9);
        Due.is("16: count(0)", x.count(0), 0);
    }

    private static void newObjectsAreKeptAndNotLookedAt() {
        FiberHeap x = new FiberHeap();
        x.make(0, 0, 2, 1);
        x.make(0, 1, 2, 1);
        x.spawn(0, 0);
        x.spawn(0, 0);
        x.collect();
        x.make(0, 3, 1, 1);
        Due.is("16: make worked two: count(7)", x.count(7), 2);
        x.set(0, 3, 0, 3);
        x.set(0, 0, 0, 3);
        Due.is("16: NEW ones are not DUE: mark(9)", x.mark(9), 3);
        x.copy(0, 3, -1);
        x.set(0, 0, 0, -1);
        x.sweep(9);
        Due.is("16: but kept: count(0)", x.count(0), 3);
        x.collect();
        x.mark(99);
        x.sweep(9);
        Due.is("16: and NEW no more in the next: count(0)", x.count(0), 2);
    }

    private static void triggerIsHalfOfWhatIsKept() {
        FiberHeap x = new FiberHeap();
        x.make(0, 0, 64, 1);
        x.make(0, 1, 64, 0);
        x.make(0, 2, 8, 0);
        x.make(0, 3, 1, 0);
        x.collect();
        x.mark(99);
        Due.is("16: half of 138: count(10)", x.count(10), 69);
        Due.is("16: count(9)", x.count(9), 0);
        x.copy(0, 2, -1);
        x.collect();
        x.mark(99);
        Due.is("16: half of 130: count(10)", x.count(10), 65);
        x.copy(0, 3, -1);
        x.copy(0, 1, -1);
        x.collect();
        x.mark(99);
        Due.is("16: at least 64: count(10)", x.count(10), 64);
    }

    private static void triggerCountsNewObjects() {
        FiberHeap x = new FiberHeap();
        for (int f = 1; f < 6; f++) {
            x.spawn(0, -1);
        }
        x.make(0, 0, 64, 0);
        x.make(0, 1, 60, 0);
        x.copy(0, 1, -1);
        x.collect();
        int pieces = x.count(7);
        x.make(0, 2, 1, 0);
        x.make(0, 2, 3, 0);
        Due.is("16: all are scanned: count(7)", x.count(7), pieces + 6);
        x.make(0, 3, 64, 0);
        Due.is("16: 64 looked at, 2 and 4 are NEW, 64 is garbage: count(10)", x.count(10), 64);
        x.collect();
        x.mark(7);
        x.make(0, 1, 1, 0);
        Due.is("16: marking ended before it was placed: count(4)", x.count(4), 0);
        Due.is("16: half of 64 + 4 + 64: count(10)", x.count(10), 66);
        x.collect();
        x.mark(5);
        x.make(0, 1, 1, 0);
        x.make(0, 1, 1, 0);
        Due.is("16: NEW ones are kept though no cell has them: mark(9)", x.mark(9), 1);
        Due.is("16: half of 64 + 4 + 64 + 2 + 2 + 2: count(10)", x.count(10), 69);
    }

    private static void promise17Sweep() {
        FiberHeap x = new FiberHeap();
        x.make(0, 0, 20, 0);
        x.make(0, 1, 2, 0);
        x.make(0, 2, 4, 0);
        x.make(0, 3, 8, 0);
        x.copy(0, 0, -1);
        x.copy(0, 2, -1);
        Due.is("17: none is unswept: sweep(5)", x.sweep(5), 0);
        x.collect();
        Due.is("17: nor while it is marking: sweep(5)", x.sweep(5), 0);
        x.mark(99);
        Due.is("17: every span is: count(5)", x.count(5), 4);
        Due.is("17: sweep(0)", x.sweep(0), 0);
        Due.is("17: sweep(-1)", x.sweep(-1), 0);
        Due.is("17: sweep(MIN)", x.sweep(Integer.MIN_VALUE), 0);
        Due.is("17: nothing is freed before: count(0)", x.count(0), 4);
        Due.is("17: sweep(1)", x.sweep(1), 1);
        Due.is("17: the lowest: page(0)", x.page(0), 0);
        Due.is("17: all its pages: page(1)", x.page(1), 0);
        Due.is("17: count(5)", x.count(5), 3);
        Due.is("17: sweep(2)", x.sweep(2), 2);
        Due.is("17: page(2)", x.page(2), 2);
        Due.is("17: page(3)", x.page(3), 0);
        Due.is("17: sweep(MAX)", x.sweep(Integer.MAX_VALUE), 1);
        Due.is("17: page(4)", x.page(4), 8);
        Due.is("17: count(11)", x.count(11), 2);
        Due.is("17: count(1)", x.count(1), 10);
        Due.is("17: sweep(1)", x.sweep(1), 0);
    }

    private static void promise17KeepsPartOfASpan() {
        FiberHeap x = new FiberHeap();
        for (int i = 0; i < 8; i++) {
            x.make(0, i == 5 ? 1 : 0, 2, 0);
        }
        x.store(0, 1, 0, 55);
        x.copy(0, 0, -1);
        x.collect();
        x.mark(9);
        Due.is("17: sweep(9)", x.sweep(9), 1);
        Due.is("17: page(0)", x.page(0), 2);
        Due.is("17: count(0)", x.count(0), 1);
        Due.is("17: count(11)", x.count(11), 7);
        Due.is("17: load(0, 1, 0)", x.load(0, 1, 0), 55);
        int[] next = {0, 2, 4, 6, 8, 12, 14, 16};
        for (int i = 0; i < 8; i++) {
            Due.is("17: make(0, 2, 2, 0)", x.make(0, 2, 2, 0), next[i]);
        }
    }

    private static void promise18Collect() {
        FiberHeap x = new FiberHeap();
        x.make(0, 0, 2, 0);
        x.make(0, 0, 4, 0);
        Due.yes("18: collect()", x.collect());
        Due.is("18: count(4)", x.count(4), 1);
        Due.is("18: count(6)", x.count(6), 1);
        Due.no("18: it is marking: collect()", x.collect());
        Due.is("18: count(6)", x.count(6), 1);
        Due.is("18: FRESH stays: count(9)", x.count(9), 6);
        x.mark(99);
        Due.is("18: count(5)", x.count(5), 2);
        Due.yes("18: collect()", x.collect());
        Due.is("18: all were swept: count(5)", x.count(5), 0);
        Due.is("18: count(11)", x.count(11), 1);
        Due.is("18: page(0)", x.page(0), 0);
        Due.is("18: none is scanned: fiber(0, 3)", x.fiber(0, 3), 0);
        Due.is("18: none was looked at: mark(9)", x.mark(9), 2);
        Due.is("18: count(6)", x.count(6), 2);
    }

    public static void main(String[] args) {
        promise16Mark();
        promise16EndsWithoutWork();
        promise16FreesCycles();
        promise16ScansOlderFrames();
        promise16Shrinks();
        notesWhatSetTakesAway();
        notesWhatSetPutsIn();
        notesWhatSetPutsIntoANewObject();
        takeAloneNotesNothing();
        notesOnlyASetThatIsDone();
        notesTheChannels();
        notesWhatEntersAChannel();
        notesWhatGoesToAnotherFiber();
        spawnNotesNothing();
        newObjectsAreKeptAndNotLookedAt();
        triggerIsHalfOfWhatIsKept();
        triggerCountsNewObjects();
        promise17Sweep();
        promise17KeepsPartOfASpan();
        promise18Collect();
        Due.close();
    }
}
