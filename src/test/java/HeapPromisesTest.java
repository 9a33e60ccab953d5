/** Promises 9 to 13, 20 and 21: objects, their words, slots, spans and pages. */
public final class HeapPromisesTest {
    private static void promise9Slots() {
        int[] words = {1, 2, 3, 4, 5, 8, 9, 16, 17, 32, 33, 48, 49, 64};
        int[] pages = {2, 2, 4, 4, 8, 8, 16, 16, 32, 32, 48, 48, 64, 64};
        for (int i = 0; i < words.length; i++) {
            FiberHeap x = new FiberHeap();
            Due.is("9: make(0, 3, " + words[i] + ", 0)", x.make(0, 3, words[i], 0), 0);
            Due.is("9: fiber(0, 7)", x.fiber(0, 7), 0);
            Due.is("21: " + words[i] + " words: page(0)", x.page(0), pages[i]);
            Due.is("9: " + words[i] + " words: count(9)", x.count(9), pages[i]);
            Due.is("20: " + words[i] + " words: count(0)", x.count(0), 1);
            Due.is("20: " + words[i] + " words: count(1)", x.count(1), pages[i]);
            int whole = Math.max(1, pages[i] / 16);
            Due.is("20: " + words[i] + " words: count(2)", x.count(2), 16 - whole);
            for (int p = 1; p < 16; p++) {
                Due.is("21: " + words[i] + " words: page(" + p + ")", x.page(p), p < whole ? 1 : 0);
            }
        }
    }

    private static void promise9LowestSlotFirst() {
        FiberHeap x = new FiberHeap();
        for (int i = 0; i < 8; i++) {
            Due.is("9: slot " + i + ": make(0, 0, 2, 0)", x.make(0, 0, 2, 0), 2 * i);
        }
        Due.is("9: the next span: make(0, 0, 1, 0)", x.make(0, 0, 1, 0), 16);
        for (int i = 0; i < 4; i++) {
            Due.is("9: make(0, 1, 3, 0)", x.make(0, 1, 3, 0), 32 + 4 * i);
        }
        Due.is("9: make(0, 2, 6, 0)", x.make(0, 2, 6, 0), 48);
        Due.is("9: make(0, 2, 5, 0)", x.make(0, 2, 5, 0), 56);
        Due.is("9: make(0, 2, 5, 0)", x.make(0, 2, 5, 0), 64);
        Due.is("9: back to the first with room: make(0, 0, 2, 0)", x.make(0, 0, 2, 0), 18);
        Due.is("20: count(0)", x.count(0), 17);
        Due.is("20: count(1)", x.count(1), 20 + 16 + 24);
    }

    private static void promise9ThroughTheRef() {
        FiberHeap x = new FiberHeap();
        Due.is("9: REF is NONE: make(0, 4, 2, 0)", x.make(0, 4, 2, 0), FiberHeap.NONE);
        x.aim(0, 1);
        x.call(0);
        Due.is("9: make(0, 4, 2, 0)", x.make(0, 4, 2, 0), 0);
        Due.is("9: fiber(0, 5)", x.fiber(0, 5), FiberHeap.NIL);
        x.leave(0);
        Due.is("9: fiber(0, 5)", x.fiber(0, 5), 0);
    }

    // Pages 0 .. 15: 1 page free, 3 in use, 2 free, 4 in use, 2 free, 4 in use; cells hold what is in use.
    private static FiberHeap withRuns() {
        FiberHeap x = new FiberHeap();
        x.call(0);
        x.make(0, 0, 10, 1);
        x.make(0, 1, 48, 1);
        x.make(0, 0, 32, 1);
        x.make(0, 2, 64, 1);
        x.make(0, 0, 32, 1);
        x.make(0, 3, 64, 1);
        x.copy(0, 0, -1);
        x.mark(1000);
        x.collect();
        x.mark(1000);
        x.sweep(16);
        return x;
    }

    private static void promise9ShortestRun() {
        FiberHeap x = withRuns();
        int[] pages = {0, 48, 1, 1, 0, 0, 64, 1, 1, 1, 0, 0, 64, 1, 1, 1};
        for (int p = 0; p < 16; p++) {
            Due.is("9: runs: page(" + p + ")", x.page(p), pages[p]);
        }
        Due.is("20: count(2)", x.count(2), 5);
        Due.is("20: count(3)", x.count(3), 2);
        Due.is("9: lowest of the shortest: make(0, 0, 17, 0)", x.make(0, 0, 17, 0), 64);
        Due.is("20: count(3)", x.count(3), 2);
        Due.is("9: the shortest: make(0, 0, 2, 0)", x.make(0, 0, 2, 0), 0);
        Due.is("9: the lowest page of it: make(0, 0, 8, 0)", x.make(0, 0, 8, 0), 160);
        Due.is("20: count(3)", x.count(3), 1);
        Due.is("20: count(2)", x.count(2), 1);
        FiberHeap y = withRuns();
        Due.is("9: not a longer one: make(0, 0, 16, 0)", y.make(0, 0, 16, 0), 0);
        Due.is("9: make(0, 0, 16, 0)", y.make(0, 0, 16, 0), 64);
        Due.is("9: what is left of it is the shortest: make(0, 0, 16, 0)", y.make(0, 0, 16, 0), 80);
        Due.is("9: make(0, 0, 16, 0)", y.make(0, 0, 16, 0), 160);
    }

    private static void promise9ShorterRunBehindALongerOne() {
        FiberHeap x = new FiberHeap();
        x.make(0, 0, 64, 0);
        x.make(0, 1, 16, 0);
        x.make(0, 0, 32, 0);
        x.make(0, 2, 64, 0);
        x.make(0, 3, 64, 0);
        x.copy(0, 0, -1);
        x.mark(99);
        x.collect();
        x.mark(99);
        x.sweep(16);
        Due.is("20: runs of 4, 2 and 1: count(2)", x.count(2), 7);
        Due.is("20: count(3)", x.count(3), 4);
        Due.is("9: make(0, 0, 32, 0)", x.make(0, 0, 32, 0), 80);
        Due.is("9: at the end of the heap: make(0, 0, 1, 0)", x.make(0, 0, 1, 0), 240);
        Due.is("9: make(0, 0, 3, 0)", x.make(0, 0, 3, 0), 0);
    }

    private static void promise9LargeOnesSweepNothing() {
        FiberHeap x = new FiberHeap();
        x.make(0, 0, 16, 0);
        x.make(0, 0, 16, 0);
        x.collect();
        x.mark(99);
        Due.is("9: not the span of a freed one: make(0, 1, 16, 0)", x.make(0, 1, 16, 0), 32);
        Due.is("9: count(5)", x.count(5), 2);
        Due.is("9: count(11)", x.count(11), 0);
    }

    private static void promise9BeginsACycle() {
        FiberHeap x = new FiberHeap();
        x.make(0, 0, 48, 0);
        x.make(0, 1, 8, 0);
        x.make(0, 2, 4, 0);
        x.make(0, 3, 2, 0);
        Due.is("9: FRESH: count(9)", x.count(9), 62);
        Due.is("9: less than TRIGGER: make(0, 3, 2, 0)", x.make(0, 3, 2, 0), 82);
        Due.is("9: count(6)", x.count(6), 0);
        Due.is("9: FRESH is TRIGGER: count(9)", x.count(9), 64);
        Due.is("9: make(0, 3, 2, 0)", x.make(0, 3, 2, 0), 84);
        Due.is("9: a cycle began: count(6)", x.count(6), 1);
        Due.is("9: it worked the words of the slot: count(7)", x.count(7), 2);
        Due.is("9: it is marking: count(4)", x.count(4), 1);
        Due.is("9: FRESH grows on: count(9)", x.count(9), 66);
        Due.is("9: make(0, 1, 5, 0)", x.make(0, 1, 5, 0), 56);
        Due.is("9: works till none is left: count(7)", x.count(7), 5);
        Due.is("9: marking ended: count(4)", x.count(4), 0);
        Due.is("9: FRESH from 0 on: count(9)", x.count(9), 8);
        Due.is("9: half of 48 + 8 + 4 + 2 + 2 (one is NEW): count(10)", x.count(10), 64);
        Due.is("9: the span of 8 was swept for it: count(5)", x.count(5), 3);
    }

    private static void promise9SweepsAsItGoes() {
        FiberHeap x = new FiberHeap();
        for (int i = 0; i < 17; i++) {
            x.make(0, i == 9 ? 1 : i == 16 ? 2 : 0, 2, 0);
        }
        x.copy(0, 0, -1);
        x.make(0, 3, 3, 0);
        x.collect();
        x.mark(99);
        Due.is("9: pages 0 to 3: count(5)", x.count(5), 4);
        Due.is("9: page 0 is free then, page 1 has a slot: make(0, 0, 2, 0)", x.make(0, 0, 2, 0), 16);
        Due.is("9: page(0)", x.page(0), 0);
        Due.is("9: no further span is swept: count(5)", x.count(5), 2);
        Due.is("9: count(11)", x.count(11), 15);
        Due.is("9: a run is looked for last: make(0, 0, 7, 0)", x.make(0, 0, 7, 0), 0);
        Due.is("9: other sizes are not swept: count(5)", x.count(5), 2);
    }

    private static void promise9SweepsAllBeforeItGivesUp() {
        FiberHeap x = new FiberHeap();
        for (int k = 0; k < 4; k++) {
            x.make(0, k, 64, 0);
        }
        x.copy(0, 1, -1);
        x.collect();
        x.mark(99);
        int cycles = x.count(6);
        Due.is("9: unswept: count(5)", x.count(5), 4);
        Due.is("9: make(0, 1, 60, 0)", x.make(0, 1, 60, 0), 64);
        Due.is("9: without a cycle: count(6)", x.count(6), cycles);
        Due.is("9: all were swept: count(5)", x.count(5), 0);
        x.copy(0, 2, -1);
        Due.is("9: with a cycle: make(0, 2, 60, 0)", x.make(0, 2, 60, 0), 128);
        Due.is("9: count(6)", x.count(6), cycles + 1);
        Due.is("9: FRESH is of this one alone: count(9)", x.count(9), 64);
        x.collect();
        x.mark(1);
        x.copy(0, 3, -1);
        cycles = x.count(6);
        Due.is("9: marking ends, then one cycle more: make(0, 3, 40, 0)", x.make(0, 3, 40, 0), 192);
        Due.is("9: count(6)", x.count(6), cycles + 1);
        Due.is("9: at rest: count(4)", x.count(4), 0);
    }

    private static void promise9EndsMarkingFirst() {
        FiberHeap x = new FiberHeap();
        for (int k = 0; k < 4; k++) {
            x.make(0, k, 60, 0);
        }
        x.copy(0, 1, -1);
        for (int i = 0; i < 5; i++) {
            x.spawn(0, -1);
        }
        x.collect();
        x.mark(2);
        int cycles = x.count(6);
        Due.is("9: it is marking: count(4)", x.count(4), 1);
        Due.is("9: marking ends, sweeps and places: make(0, 1, 2, 0)", x.make(0, 1, 2, 0), 64);
        Due.is("9: no further cycle: count(6)", x.count(6), cycles);
        Due.is("9: count(4)", x.count(4), 0);
        Due.is("9: count(5)", x.count(5), 0);
    }

    private static void promise9Full() {
        FiberHeap x = new FiberHeap();
        for (int k = 0; k < 4; k++) {
            x.make(0, k, 64, 0);
        }
        int cycles = x.count(6);
        Due.is("9: make(0, 2, 1, 0)", x.make(0, 2, 1, 0), FiberHeap.FULL);
        Due.is("9: the cell stays: fiber(0, 6)", x.fiber(0, 6), 128);
        Due.is("9: FRESH does not grow: count(9)", x.count(9), 0);
        Due.is("9: count(10)", x.count(10), 128);
        Due.is("9: count(6)", x.count(6), cycles + 1);
        Due.is("9: count(0)", x.count(0), 4);
        Due.is("20: count(3)", x.count(3), 0);
        Due.is("20: count(2)", x.count(2), 0);
    }

    private static void promise9WordsAtFirst() {
        FiberHeap x = new FiberHeap();
        x.make(0, 0, 8, 0);
        for (int w = 0; w < 8; w++) {
            x.store(0, 0, w, 1000 + w);
        }
        x.copy(0, 0, -1);
        x.collect();
        x.mark(9);
        x.sweep(9);
        x.make(0, 1, 2, 0);
        Due.is("9: the same words again: fiber(0, 5)", x.fiber(0, 5), 0);
        x.copy(0, 1, -1);
        x.collect();
        x.mark(9);
        x.sweep(9);
        Due.is("9: make(0, 0, 8, 3)", x.make(0, 0, 8, 3), 0);
        for (int w = 0; w < 3; w++) {
            x.copy(0, 2, 0);
            Due.yes("9: get(0, 2, 0, " + w + ")", x.get(0, 2, 0, w));
            Due.is("9: pointer words are NIL: fiber(0, 6)", x.fiber(0, 6), FiberHeap.NIL);
        }
        for (int w = 3; w < 8; w++) {
            Due.is("9: int words are 0: load(0, 0, " + w + ")", x.load(0, 0, w), 0);
        }
    }

    private static void promise10And11SetAndGet() {
        FiberHeap x = new FiberHeap();
        x.make(0, 0, 4, 2);
        x.make(0, 1, 2, 1);
        Due.yes("10: set(0, 0, 1, 1)", x.set(0, 0, 1, 1));
        Due.yes("10: to itself: set(0, 0, 0, 0)", x.set(0, 0, 0, 0));
        Due.yes("11: get(0, 2, 0, 1)", x.get(0, 2, 0, 1));
        Due.is("11: fiber(0, 6)", x.fiber(0, 6), 16);
        Due.yes("11: get(0, 3, 0, 0)", x.get(0, 3, 0, 0));
        Due.is("11: fiber(0, 7)", x.fiber(0, 7), 0);
        Due.yes("10: NIL: set(0, 0, 1, -1)", x.set(0, 0, 1, -1));
        Due.yes("11: get(0, 2, 0, 1)", x.get(0, 2, 0, 1));
        Due.is("11: fiber(0, 6)", x.fiber(0, 6), FiberHeap.NIL);
        Due.no("10: the cell holds NIL: set(0, 2, 0, 0)", x.set(0, 2, 0, 0));
        Due.no("11: the cell holds NIL: get(0, 3, 2, 0)", x.get(0, 3, 2, 0));
        Due.no("10: an int word: set(0, 0, 2, 0)", x.set(0, 0, 2, 0));
        Due.no("11: an int word: get(0, 3, 0, 2)", x.get(0, 3, 0, 2));
        Due.no("10: set(0, 0, -1, 0)", x.set(0, 0, -1, 0));
        Due.no("11: get(0, 3, 0, -1)", x.get(0, 3, 0, -1));
        Due.no("10: set(0, 0, 0, -2)", x.set(0, 0, 0, -2));
        Due.no("10: REF is NONE: set(0, 0, 0, 4)", x.set(0, 0, 0, 4));
        Due.no("10: REF is NONE: set(0, 4, 0, 0)", x.set(0, 4, 0, 0));
        Due.no("11: REF is NONE: get(0, 4, 0, 0)", x.get(0, 4, 0, 0));
        Due.no("11: REF is NONE: get(0, 1, 4, 0)", x.get(0, 1, 4, 0));
        Due.no("11: NIL is no cell: get(0, -1, 0, 0)", x.get(0, -1, 0, 0));
        x.aim(0, 1);
        x.call(0);
        x.copy(0, 1, -1);
        Due.yes("10: through the REF: set(0, 4, 0, 0)", x.set(0, 4, 0, 0));
        Due.yes("10: through the REF: set(0, 0, 1, 4)", x.set(0, 0, 1, 4));
        Due.yes("11: through the REF: get(0, 2, 4, 0)", x.get(0, 2, 4, 0));
        Due.is("11: fiber(0, 6)", x.fiber(0, 6), 0);
        Due.yes("11: into the REF: get(0, 4, 0, 1)", x.get(0, 4, 0, 1));
        Due.yes("11: onto itself: get(0, 0, 0, 1)", x.get(0, 0, 0, 1));
        Due.is("11: fiber(0, 4)", x.fiber(0, 4), 16);
    }

    private static void promise12And13StoreAndLoad() {
        FiberHeap x = new FiberHeap();
        x.make(0, 0, 5, 2);
        x.make(0, 1, 64, 0);
        Due.yes("12: store(0, 0, 2, 7)", x.store(0, 0, 2, 7));
        Due.yes("12: store(0, 0, 4, MIN)", x.store(0, 0, 4, Integer.MIN_VALUE));
        Due.yes("12: store(0, 1, 63, -9)", x.store(0, 1, 63, -9));
        Due.is("13: load(0, 0, 2)", x.load(0, 0, 2), 7);
        Due.is("13: load(0, 0, 3)", x.load(0, 0, 3), 0);
        Due.is("13: load(0, 0, 4)", x.load(0, 0, 4), Integer.MIN_VALUE);
        Due.is("13: load(0, 1, 63)", x.load(0, 1, 63), -9);
        Due.is("13: load(0, 1, 0)", x.load(0, 1, 0), 0);
        x.make(0, 3, 6, 3);
        Due.no("12: of a later object: store(0, 3, 2, 6)", x.store(0, 3, 2, 6));
        Due.yes("12: store(0, 3, 3, 6)", x.store(0, 3, 3, 6));
        Due.is("13: load(0, 3, 3)", x.load(0, 3, 3), 6);
        Due.no("12: a pointer word: store(0, 0, 1, 7)", x.store(0, 0, 1, 7));
        Due.is("13: a pointer word: load(0, 0, 1)", x.load(0, 0, 1), 0);
        Due.no("12: beyond its words: store(0, 0, 5, 7)", x.store(0, 0, 5, 7));
        Due.is("13: beyond its words: load(0, 0, 5)", x.load(0, 0, 5), 0);
        Due.no("12: store(0, 0, -1, 7)", x.store(0, 0, -1, 7));
        Due.no("12: store(0, 1, 64, 7)", x.store(0, 1, 64, 7));
        Due.no("12: the cell holds NIL: store(0, 2, 0, 7)", x.store(0, 2, 0, 7));
        Due.is("13: the cell holds NIL: load(0, 2, 0)", x.load(0, 2, 0), 0);
        Due.no("12: REF is NONE: store(0, 4, 2, 7)", x.store(0, 4, 2, 7));
        Due.is("13: REF is NONE: load(0, 4, 2)", x.load(0, 4, 2), 0);
        x.aim(0, 0);
        x.call(0);
        Due.yes("12: through the REF: store(0, 4, 3, 8)", x.store(0, 4, 3, 8));
        Due.is("13: through the REF: load(0, 4, 3)", x.load(0, 4, 3), 8);
        x.spawn(0, 0);
        x.send(0, 1, 0);
        Due.no("12: it waits: store(0, 0, 2, 9)", x.store(0, 0, 2, 9));
        Due.is("13: it waits: load(0, 0, 2)", x.load(0, 0, 2), 0);
        Due.is("13: another fiber's cell: load(1, 0, 2)", x.load(1, 0, 2), 7);
    }

    private static void promise20Count() {
        FiberHeap x = new FiberHeap();
        x.make(0, 0, 20, 3);
        x.make(0, 1, 6, 0);
        x.make(0, 1, 3, 0);
        x.call(0);
        x.call(0);
        x.collect();
        int[] marking = {3, 44, 12, 12, 1, 0, 1, 0, 2, 44, 64, 0};
        for (int what = 0; what < 12; what++) {
            Due.is("20: marking: count(" + what + ")", x.count(what), marking[what]);
        }
        x.mark(50);
        int[] rest = {3, 44, 12, 12, 0, 3, 1, 3, 2, 0, 64, 0};
        for (int what = 0; what < 12; what++) {
            Due.is("20: at rest: count(" + what + ")", x.count(what), rest[what]);
        }
        x.sweep(2);
        x.sweep(1);
        int[] swept = {2, 36, 13, 12, 0, 0, 1, 3, 2, 0, 64, 1};
        for (int what = 0; what < 12; what++) {
            Due.is("20: swept: count(" + what + ")", x.count(what), swept[what]);
        }
        int[] wrong = {-1, 12, Integer.MIN_VALUE, Integer.MAX_VALUE};
        for (int what : wrong) {
            Due.is("20: count(" + what + ")", x.count(what), FiberHeap.NONE);
            Due.is("21: page(" + what + ")", x.page(what == 12 ? 16 : what), FiberHeap.NONE);
        }
    }

    public static void main(String[] args) {
        promise9Slots();
        promise9LowestSlotFirst();
        promise9ThroughTheRef();
        promise9ShortestRun();
        promise9ShorterRunBehindALongerOne();
        promise9LargeOnesSweepNothing();
        promise9BeginsACycle();
        promise9SweepsAsItGoes();
        promise9SweepsAllBeforeItGivesUp();
        promise9EndsMarkingFirst();
        promise9Full();
        promise9WordsAtFirst();
        promise10And11SetAndGet();
        promise12And13StoreAndLoad();
        promise20Count();
        Due.close();
    }
}
