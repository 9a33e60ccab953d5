/** The boundary cases of HEAP and SPANS in the document's terms, and of what page() and count() tell of them. */
public final class HeapBoundsTest {
    private static final int NIL = FiberHeap.NIL;
    private static final int FULL = FiberHeap.FULL;

    // ---- HEAP and OBJECT

    private static void addressesEndAt255() {
        FiberHeap x = Scenes.list(127, 2);
        Due.is("the last slot of all: make(0, 1, 2, 1)", x.make(0, 1, 2, 1), 254);
        Due.yes("word 255 of the heap: store(0, 1, 1, 77)", x.store(0, 1, 1, 77));
        Due.is("load(0, 1, 1)", x.load(0, 1, 1), 77);
        Due.is("its neighbour's: load(0, 0, 1)", x.load(0, 0, 1), 0);
        Due.is("slots: count(0)", x.count(0), 128);
        Due.is("words: count(1)", x.count(1), 256);
        Due.is("one more: make(0, 2, 1, 0)", x.make(0, 2, 1, 0), FULL);
    }

    private static void sixteenPagesOfSixteenWords() {
        FiberHeap x = Scenes.inARow(16, 16, 16, 16, 16, 16, 16, 16, 16, 16, 16, 16, 16, 16, 16);
        Due.is("pages left: count(2)", x.count(2), 1);
        Due.is("the last page: make(0, 3, 16, 0)", x.make(0, 3, 16, 0), 240);
        Scenes.pages(x, 16, 16, 16, 16, 16, 16, 16, 16, 16, 16, 16, 16, 16, 16, 16, 16);
        Due.is("pages left: count(2)", x.count(2), 0);
        x.call(0);
        Due.is("no page 16: make(0, 0, 9, 0)", x.make(0, 0, 9, 0), FULL);
    }

    private static void anObjectOfOneWord() {
        FiberHeap x = new FiberHeap();
        Due.is("make(0, 0, 1, 0)", x.make(0, 0, 1, 0), 0);
        Due.yes("store(0, 0, 0, 5)", x.store(0, 0, 0, 5));
        Due.no("the slot's other word: store(0, 0, 1, 6)", x.store(0, 0, 1, 6));
        Due.is("load(0, 0, 0)", x.load(0, 0, 0), 5);
        Due.is("load(0, 0, 1)", x.load(0, 0, 1), 0);
    }

    private static void anObjectOf64Words() {
        FiberHeap x = new FiberHeap();
        x.make(0, 1, 64, 0);
        Due.is("make(0, 0, 64, 0)", x.make(0, 0, 64, 0), 64);
        for (int w = 0; w < 64; w++) {
            Due.yes("store(0, 0, " + w + ", .)", x.store(0, 0, w, 1000 + w));
        }
        Due.no("store(0, 0, 64, 1)", x.store(0, 0, 64, 1));
        for (int w = 0; w < 64; w++) {
            Due.is("load(0, 0, " + w + ")", x.load(0, 0, w), 1000 + w);
            Due.is("the other's: load(0, 1, " + w + ")", x.load(0, 1, w), 0);
        }
    }

    private static void wordsBehindTheObjectsLast() {
        for (int words : new int[] {3, 5, 6, 7, 9, 15, 17, 31, 33, 47, 49, 63}) {
            FiberHeap x = new FiberHeap();
            x.make(0, 0, words, 1);
            Due.yes("of " + words + ": store(0, 0, " + (words - 1) + ", 8)", x.store(0, 0, words - 1, 8));
            Due.no("of " + words + ": store(0, 0, " + words + ", 9)", x.store(0, 0, words, 9));
            Due.is("of " + words + ": load(0, 0, " + words + ")", x.load(0, 0, words), 0);
            Due.no("of " + words + ": set(0, 0, " + words + ", 0)", x.set(0, 0, words, 0));
        }
    }

    private static void noPointerWord() {
        for (int words : new int[] {1, 2, 8, 64}) {
            FiberHeap x = new FiberHeap();
            Due.is("make(0, 0, " + words + ", 0)", x.make(0, 0, words, 0), 0);
            Due.no("set(0, 0, 0, 0)", x.set(0, 0, 0, 0));
            Due.no("get(0, 1, 0, 0)", x.get(0, 1, 0, 0));
            Due.yes("store(0, 0, 0, 3)", x.store(0, 0, 0, 3));
            Due.is("load(0, 0, 0)", x.load(0, 0, 0), 3);
        }
    }

    private static void pointerWordsAlone() {
        for (int words : new int[] {1, 2, 8, 64}) {
            FiberHeap x = new FiberHeap();
            x.make(0, 1, 16, 0);
            Due.is("make(0, 0, " + words + ", " + words + ")", x.make(0, 0, words, words), 16);
            int last = words - 1;
            Due.yes("set(0, 0, " + last + ", 0)", x.set(0, 0, last, 0));
            Due.yes("get(0, 2, 0, " + last + ")", x.get(0, 2, 0, last));
            Due.is("fiber(0, 6)", x.fiber(0, 6), 16);
            Due.no("store(0, 0, " + last + ", 3)", x.store(0, 0, last, 3));
            Due.is("no int word: load(0, 0, " + last + ")", x.load(0, 0, last), 0);
            Due.no("set(0, 0, " + words + ", 0)", x.set(0, 0, words, 0));
        }
    }

    private static void theFirstWordsArePointerWords() {
        FiberHeap x = new FiberHeap();
        x.make(0, 1, 16, 0);
        x.make(0, 0, 6, 3);
        Due.yes("the last pointer word: set(0, 0, 2, 1)", x.set(0, 0, 2, 1));
        Due.no("the first int word: set(0, 0, 3, 1)", x.set(0, 0, 3, 1));
        Due.no("the last pointer word: store(0, 0, 2, 9)", x.store(0, 0, 2, 9));
        Due.yes("the first int word: store(0, 0, 3, 9)", x.store(0, 0, 3, 9));
        Due.yes("get(0, 2, 0, 2)", x.get(0, 2, 0, 2));
        Due.is("fiber(0, 6)", x.fiber(0, 6), 0);
        Due.is("load(0, 0, 3)", x.load(0, 0, 3), 9);
    }

    private static void wordsOfAnObjectThatIsMade() {
        FiberHeap x = new FiberHeap();
        x.make(0, 0, 64, 0);
        for (int w = 0; w < 64; w++) {
            x.store(0, 0, w, 1 + w);
        }
        x.copy(0, 0, -1);
        Scenes.cleanUp(x);
        Due.is("where ints were: make(0, 0, 64, 64)", x.make(0, 0, 64, 64), 0);
        for (int w = 0; w < 64; w++) {
            x.copy(0, 1, 0);
            Due.yes("get(0, 1, 0, " + w + ")", x.get(0, 1, 0, w));
            Due.is("fiber(0, 5)", x.fiber(0, 5), NIL);
        }
        x.set(0, 0, 0, 0);
        x.set(0, 0, 63, 0);
        x.copy(0, 0, -1);
        Scenes.cleanUp(x);
        Due.is("where pointers were: make(0, 0, 64, 0)", x.make(0, 0, 64, 0), 0);
        for (int w = 0; w < 64; w++) {
            Due.is("load(0, 0, " + w + ")", x.load(0, 0, w), 0);
        }
    }

    private static void bothKindsOfWordsWhenItIsMade() {
        FiberHeap x = new FiberHeap();
        x.make(0, 0, 8, 8);
        for (int w = 0; w < 8; w++) {
            x.set(0, 0, w, 0);
        }
        x.copy(0, 0, -1);
        Scenes.cleanUp(x);
        x.make(0, 0, 8, 4);
        for (int w = 0; w < 4; w++) {
            x.copy(0, 1, 0);
            x.get(0, 1, 0, w);
            Due.is("pointer word " + w + ": fiber(0, 5)", x.fiber(0, 5), NIL);
            Due.is("int word: load(0, 0, " + (4 + w) + ")", x.load(0, 0, 4 + w), 0);
        }
    }

    // ---- slots and spans

    private static void slotsOfASmallSpan() {
        for (int size = 2; size <= 8; size *= 2) {
            FiberHeap x = new FiberHeap();
            for (int slot = 0; slot < 16 / size; slot++) {
                Due.is("slot " + slot + ": make(0, 0, " + size + ", 0)", x.make(0, 0, size, 0), slot * size);
            }
            Due.is("one page: count(2)", x.count(2), 15);
            Due.is("beyond its slots: make(0, 0, " + size + ", 0)", x.make(0, 0, size, 0), 16);
            Due.is("page(1)", x.page(1), size);
        }
    }

    private static void theSlotThatAnObjectTakes() {
        int[][] wordsAndSlot = {{1, 2}, {2, 2}, {3, 4}, {4, 4}, {5, 8}, {8, 8}, {9, 16}, {16, 16}, {17, 32}, {32, 32},
            {33, 48}, {48, 48}, {49, 64}, {64, 64}};
        for (int[] due : wordsAndSlot) {
            FiberHeap x = new FiberHeap();
            x.make(0, 0, due[0], 0);
            Due.is(due[0] + " words: page(0)", x.page(0), due[1]);
            Due.is(due[0] + " words: count(1)", x.count(1), due[1]);
        }
    }

    private static void pagesOfALargeSpan() {
        int[][] wordsAndPages = {{9, 1}, {16, 1}, {17, 2}, {32, 2}, {33, 3}, {48, 3}, {49, 4}, {64, 4}};
        for (int[] due : wordsAndPages) {
            FiberHeap x = new FiberHeap();
            x.make(0, 0, due[0], 0);
            Due.is(due[0] + " words: page(0)", x.page(0), 16 * due[1]);
            for (int p = 1; p < 6; p++) {
                Due.is(due[0] + " words: page(" + p + ")", x.page(p), p < due[1] ? 1 : 0);
            }
            Due.is("one slot: the next large one has its own span: make(0, 1, 9, 0)", x.make(0, 1, 9, 0), 16 * due[1]);
        }
    }

    private static void aRunIsAsLongAsThereAreFreePages() {
        Due.is("all pages are free: count(3)", new FiberHeap().count(3), 16);
        FiberHeap x = withHoles(new int[] {16, 64, 32, 16}, new boolean[] {false, true, true, false});
        Scenes.pages(x, 16, 0, 0, 0, 0, 0, 0, 16, 0);
        Due.is("free pages: count(2)", x.count(2), 14);
        Due.is("pages 8 to 15: count(3)", x.count(3), 8);
        Due.is("two spans left one run of 6, the shorter one: make(0, 0, 64, 0)", x.make(0, 0, 64, 0), 16);
        Due.is("make(0, 1, 32, 0)", x.make(0, 1, 32, 0), 80);
        FiberHeap full = Scenes.inARow(64, 64, 64, 64);
        Due.is("there is none: count(3)", full.count(3), 0);
    }

    // ---- to sweep

    private static void sweepFreesWhatWasNotKept() {
        FiberHeap x = new FiberHeap();
        x.make(0, 0, 2, 0);
        x.make(0, 1, 2, 0);
        x.make(0, 2, 2, 0);
        x.copy(0, 1, -1);
        x.collect();
        x.mark(9);
        Due.is("not before it is swept: count(11)", x.count(11), 0);
        Due.is("count(0)", x.count(0), 3);
        x.sweep(1);
        Due.is("count(11)", x.count(11), 1);
        Due.is("count(0)", x.count(0), 2);
        Due.is("its slot is taken no more: make(0, 1, 2, 0)", x.make(0, 1, 2, 0), 2);
    }

    private static void aSweptSpanIsUnsweptNoMore() {
        FiberHeap x = new FiberHeap();
        x.make(0, 0, 2, 0);
        x.collect();
        x.mark(9);
        Due.is("count(5)", x.count(5), 1);
        Due.is("sweep(1)", x.sweep(1), 1);
        Due.is("count(5)", x.count(5), 0);
        Due.is("once more: sweep(1)", x.sweep(1), 0);
        x.copy(0, 0, -1);
        Due.is("nothing is swept twice: sweep(1)", x.sweep(1), 0);
        Due.is("count(0)", x.count(0), 1);
    }

    private static void aSpanWithOneTakenSlotStays() {
        for (int kept = 0; kept < 8; kept++) {
            FiberHeap x = new FiberHeap();
            for (int slot = 0; slot < 8; slot++) {
                x.make(0, slot == kept ? 1 : 0, 2, 0);
            }
            x.copy(0, 0, -1);
            Scenes.cleanUp(x);
            Due.is("slot " + kept + " is taken: page(0)", x.page(0), 2);
            Due.is("slot " + kept + " is taken: count(0)", x.count(0), 1);
            Due.is("slot " + kept + " is taken: count(2)", x.count(2), 15);
        }
    }

    private static void aSpanWithNoTakenSlotIsNoSpan() {
        for (int size = 2; size <= 64; size *= 2) {
            FiberHeap x = new FiberHeap();
            x.make(0, 0, size, 0);
            x.make(0, 0, size, 0);
            x.copy(0, 0, -1);
            Scenes.cleanUp(x);
            Scenes.pages(x, 0, 0, 0, 0, 0, 0, 0, 0);
            Due.is("of " + size + ": count(2)", x.count(2), 16);
            Due.is("of " + size + ": count(11)", x.count(11), 2);
        }
    }

    private static void aSpanWithAllKeptStays() {
        FiberHeap x = Scenes.inARow(8, 8, 64, 48);
        x.collect();
        x.mark(99);
        Due.is("sweep(9)", x.sweep(9), 3);
        Due.is("count(11)", x.count(11), 0);
        Due.is("count(0)", x.count(0), 4);
        Scenes.pages(x, 8, 64, 1, 1, 1, 48, 1, 1, 0);
    }

    // ---- to place, in a span that is there

    // Pages 0 and 1 have slots of 2; slot 1 of page 0 and slot 1 of page 1 are the only ones taken, nothing is unswept.
    private static FiberHeap twoSpansWithOpenSlots() {
        FiberHeap x = new FiberHeap();
        for (int i = 0; i < 10; i++) {
            x.make(0, i == 1 ? 1 : i == 9 ? 2 : 0, 2, 0);
        }
        x.copy(0, 0, -1);
        Scenes.cleanUp(x);
        return x;
    }

    private static void placedByRisingPageInTheLowestSlot() {
        FiberHeap x = twoSpansWithOpenSlots();
        int[] due = {0, 4, 6, 8, 10, 12, 14, 16, 20};
        for (int address : due) {
            Due.is("make(0, 0, 2, 0)", x.make(0, 0, 2, 0), address);
        }
    }

    private static void anUnsweptSpanIsSweptWhenItIsGoneThrough() {
        FiberHeap x = twoSpansWithOpenSlots();
        x.collect();
        x.mark(99);
        Due.is("count(5)", x.count(5), 2);
        Due.is("make(0, 0, 2, 0)", x.make(0, 0, 2, 0), 0);
        Due.is("no further span is looked at: count(5)", x.count(5), 1);
        Due.is("sweep(9)", x.sweep(9), 1);
    }

    private static void aSpanThatIsGoneAfterItsSweepGivesNoSlot() {
        FiberHeap x = twoSpansWithOpenSlots();
        x.copy(0, 1, -1);
        x.collect();
        x.mark(99);
        Due.is("page 0 is gone, page 1 gives one: make(0, 0, 2, 0)", x.make(0, 0, 2, 0), 16);
        Scenes.pages(x, 0, 2, 0);
        Due.is("both were swept: count(5)", x.count(5), 0);
    }

    private static void theOnlySpanIsGoneAfterItsSweep() {
        FiberHeap x = Scenes.inARow(64, 2);
        x.copy(0, 1, -1);
        x.collect();
        x.mark(99);
        Due.is("a new span where the old one was: make(0, 1, 2, 0)", x.make(0, 1, 2, 0), 64);
        Due.is("count(11)", x.count(11), 1);
        Due.is("page(4)", x.page(4), 2);
        Due.is("the large one is not swept: count(5)", x.count(5), 1);
    }

    private static void aFullSpanIsPassedBy() {
        FiberHeap x = Scenes.inARow(8, 8, 8);
        x.collect();
        x.mark(99);
        Due.is("page 0 is full: make(0, 3, 8, 0)", x.make(0, 3, 8, 0), 24);
        Due.is("both were swept: count(5)", x.count(5), 0);
        x.call(0);
        Due.is("both are full: make(0, 0, 8, 0)", x.make(0, 0, 8, 0), 32);
    }

    private static void spansOfOtherSizesGiveNoSlot() {
        FiberHeap x = Scenes.inARow(2, 4, 8);
        x.copy(0, 0, -1);
        x.collect();
        x.mark(99);
        Due.is("make(0, 3, 4, 0)", x.make(0, 3, 4, 0), 20);
        Due.is("nor are they swept: count(5)", x.count(5), 2);
        Scenes.pages(x, 2, 4, 8, 0);
    }

    private static void aHeapOfSpansOfAnotherSizeIsFull() {
        FiberHeap x = Scenes.list(31, 8);
        Due.is("no free page: count(2)", x.count(2), 0);
        Due.is("slots of 8 alone: make(0, 1, 2, 0)", x.make(0, 1, 2, 0), FULL);
        Due.is("make(0, 1, 9, 0)", x.make(0, 1, 9, 0), FULL);
        Due.is("its own size has one: make(0, 1, 5, 0)", x.make(0, 1, 5, 0), 248);
        Due.is("and no more: make(0, 2, 5, 0)", x.make(0, 2, 5, 0), FULL);
    }

    // ---- to place, in a run

    // Fiber 0 has the held ones in cells; those of the second row are gone, and the rest of the heap is one large run.
    private static FiberHeap withHoles(int[] words, boolean[] gone) {
        FiberHeap x = new FiberHeap();
        for (int i = 0; i < words.length; i++) {
            x.make(0, gone[i] ? 0 : 1, words[i], 2);
            if (!gone[i]) {
                // A list hangs on cell 2, and what is held is put before it.
                x.set(0, 1, 0, 2);
                x.copy(0, 2, 1);
            }
        }
        x.copy(0, 0, -1);
        x.copy(0, 1, -1);
        Scenes.cleanUp(x);
        return x;
    }

    private static void aRunAsLongAsNeededIsTaken() {
        for (int pages = 1; pages <= 4; pages++) {
            FiberHeap x = withHoles(new int[] {16, 16 * pages, 16}, new boolean[] {false, true, false});
            Due.is("a run of " + pages + ": make(0, 0, " + 16 * pages + ", 0)", x.make(0, 0, 16 * pages, 0), 16);
            Due.is("page(1)", x.page(1), 16 * pages);
        }
    }

    private static void aRunTooShortIsPassedBy() {
        for (int pages = 2; pages <= 4; pages++) {
            FiberHeap x = withHoles(new int[] {16, 16 * (pages - 1), 16}, new boolean[] {false, true, false});
            int behind = 16 * (pages + 1);
            Due.is("a run of " + (pages - 1) + ": make(0, 0, " + 16 * pages + ", 0)", x.make(0, 0, 16 * pages, 0), behind);
            Due.is("page(1)", x.page(1), 0);
        }
    }

    private static void theShortestRunIsTaken() {
        // Runs of 3 (page 0), 2 (page 4), 1 (page 7) and 7 (page 9) pages.
        int[] words = {48, 16, 32, 16, 16, 16};
        boolean[] gone = {true, false, true, false, true, false};
        Due.is("1 page: make(0, 0, 16, 0)", withHoles(words, gone).make(0, 0, 16, 0), 112);
        Due.is("1 page for a small one: make(0, 0, 1, 0)", withHoles(words, gone).make(0, 0, 1, 0), 112);
        Due.is("2 pages: make(0, 0, 17, 0)", withHoles(words, gone).make(0, 0, 17, 0), 64);
        Due.is("3 pages: make(0, 0, 33, 0)", withHoles(words, gone).make(0, 0, 33, 0), 0);
        Due.is("4 pages: make(0, 0, 49, 0)", withHoles(words, gone).make(0, 0, 49, 0), 144);
    }

    private static void theLowestOfEquallyShortRunsIsTaken() {
        // Runs of 2 pages at 1, 4 and 7, and a longer one at 10.
        FiberHeap x = withHoles(new int[] {16, 32, 16, 32, 16, 32, 16},
            new boolean[] {false, true, false, true, false, true, false});
        Due.is("make(0, 0, 32, 0)", x.make(0, 0, 32, 0), 16);
        x.call(0);
        Due.is("make(0, 0, 32, 0)", x.make(0, 0, 32, 0), 64);
        x.call(0);
        Due.is("make(0, 0, 32, 0)", x.make(0, 0, 32, 0), 112);
        x.call(0);
        Due.is("make(0, 0, 32, 0)", x.make(0, 0, 32, 0), 160);
    }

    private static void theLowestPagesOfTheRunAreTaken() {
        FiberHeap x = withHoles(new int[] {16, 64, 16, 64, 64}, new boolean[] {false, true, false, false, false});
        // Runs: pages 1 to 4, and 14 and 15.
        Due.is("make(0, 0, 33, 0)", x.make(0, 0, 33, 0), 16);
        Scenes.pages(x, 16, 48, 1, 1, 0, 16);
        Due.is("what is left of it is the shortest: make(0, 1, 9, 0)", x.make(0, 1, 9, 0), 64);
    }

    private static void aRunAtTheEndOfTheHeap() {
        FiberHeap x = Scenes.inARow(64, 64, 64, 48);
        Due.is("the last page: count(3)", x.count(3), 1);
        x.call(0);
        Due.is("make(0, 0, 1, 0)", x.make(0, 0, 1, 0), 240);
        Due.is("page(15)", x.page(15), 2);
    }

    private static void aLargeSpanThatEndsTheHeap() {
        FiberHeap x = Scenes.inARow(64, 64, 64);
        Due.is("make(0, 3, 64, 0)", x.make(0, 3, 64, 0), 192);
        Scenes.pages(x, 64, 1, 1, 1, 64, 1, 1, 1, 64, 1, 1, 1, 64, 1, 1, 1);
        Due.yes("store(0, 3, 63, 5)", x.store(0, 3, 63, 5));
        x.copy(0, 3, -1);
        Scenes.cleanUp(x);
        Scenes.pages(x, 64, 1, 1, 1, 64, 1, 1, 1, 64, 1, 1, 1, 0, 0, 0, 0);
    }

    private static void aNewSpanIsNotUnswept() {
        FiberHeap x = Scenes.inARow(16, 16);
        x.collect();
        x.mark(99);
        x.make(0, 2, 2, 0);
        x.make(0, 3, 32, 0);
        Due.is("those before alone: count(5)", x.count(5), 2);
        x.copy(0, 2, -1);
        x.copy(0, 3, -1);
        Due.is("sweep(9)", x.sweep(9), 2);
        Due.is("nothing of them is freed: count(0)", x.count(0), 4);
    }

    private static void freePagesThatAreNoRunDoNotHelp() {
        FiberHeap x = withHoles(new int[] {16, 16, 16, 16, 16, 32, 16, 16, 64, 48},
            new boolean[] {false, true, false, true, false, true, false, true, false, false});
        // Free are pages 1, 3, 5, 6 and 8.
        Due.is("count(2)", x.count(2), 5);
        Due.is("count(3)", x.count(3), 2);
        Due.is("make(0, 0, 33, 0)", x.make(0, 0, 33, 0), FULL);
        Due.is("make(0, 0, 49, 0)", x.make(0, 0, 49, 0), FULL);
        Due.is("a run of 2: make(0, 0, 32, 0)", x.make(0, 0, 32, 0), 80);
        x.call(0);
        Due.is("no other of 2: make(0, 0, 32, 0)", x.make(0, 0, 32, 0), FULL);
        Due.is("a run of 1: make(0, 0, 16, 0)", x.make(0, 0, 16, 0), 16);
    }

    public static void main(String[] args) {
        Due.test("HEAP: 256 words, addresses 0 .. 255", HeapBoundsTest::addressesEndAt255);
        Due.test("HEAP: in 16 PAGES (0 .. 15) of 16 words", HeapBoundsTest::sixteenPagesOfSixteenWords);
        Due.test("An OBJECT has 1 .. 64 words: 1", HeapBoundsTest::anObjectOfOneWord);
        Due.test("An OBJECT has 1 .. 64 words: 64", HeapBoundsTest::anObjectOf64Words);
        Due.test("An OBJECT has its words, not its slot's", HeapBoundsTest::wordsBehindTheObjectsLast);
        Due.test("POINTER WORDS, as many as were asked for: 0", HeapBoundsTest::noPointerWord);
        Due.test("POINTER WORDS, as many as were asked for: all", HeapBoundsTest::pointerWordsAlone);
        Due.test("Its first words are POINTER WORDS, its other words INT WORDS", HeapBoundsTest::theFirstWordsArePointerWords);
        Due.test("When it is made all words are NIL or 0", HeapBoundsTest::wordsOfAnObjectThatIsMade);
        Due.test("When it is made both kinds of words are new", HeapBoundsTest::bothKindsOfWordsWhenItIsMade);
        Due.test("A SMALL span is one page, cut into SLOTS", HeapBoundsTest::slotsOfASmallSpan);
        Due.test("An object of 1 or 2 words takes a slot of 2, ..", HeapBoundsTest::theSlotThatAnObjectTakes);
        Due.test("A LARGE span is 1 to 4 pages and one slot", HeapBoundsTest::pagesOfALargeSpan);
        Due.test("A RUN is free pages in a row, as many as there are", HeapBoundsTest::aRunIsAsLongAsThereAreFreePages);
        Due.test("To SWEEP: not KEPT are FREED", HeapBoundsTest::sweepFreesWhatWasNotKept);
        Due.test("To SWEEP: it is unswept no more", HeapBoundsTest::aSweptSpanIsUnsweptNoMore);
        Due.test("To SWEEP: one slot is taken then", HeapBoundsTest::aSpanWithOneTakenSlotStays);
        Due.test("To SWEEP: if no slot of it is taken then, its pages are free", HeapBoundsTest::aSpanWithNoTakenSlotIsNoSpan);
        Due.test("To SWEEP: all were KEPT", HeapBoundsTest::aSpanWithAllKeptStays);
        Due.test("To PLACE: by rising page, the lowest slot", HeapBoundsTest::placedByRisingPageInTheLowestSlot);
        Due.test("To PLACE: if it is unswept, it is swept", HeapBoundsTest::anUnsweptSpanIsSweptWhenItIsGoneThrough);
        Due.test("To PLACE: if it is still a span then", HeapBoundsTest::aSpanThatIsGoneAfterItsSweepGivesNoSlot);
        Due.test("To PLACE: none is still a span then", HeapBoundsTest::theOnlySpanIsGoneAfterItsSweep);
        Due.test("To PLACE: has a slot that is not taken", HeapBoundsTest::aFullSpanIsPassedBy);
        Due.test("To PLACE: the spans with slots of its size", HeapBoundsTest::spansOfOtherSizesGiveNoSlot);
        Due.test("To PLACE: spans of another size, no run", HeapBoundsTest::aHeapOfSpansOfAnotherSizeIsFull);
        Due.test("To PLACE: at least as many pages: as many", HeapBoundsTest::aRunAsLongAsNeededIsTaken);
        Due.test("To PLACE: at least as many pages: one less", HeapBoundsTest::aRunTooShortIsPassedBy);
        Due.test("To PLACE: the shortest is chosen", HeapBoundsTest::theShortestRunIsTaken);
        Due.test("To PLACE: among equally short ones the lowest", HeapBoundsTest::theLowestOfEquallyShortRunsIsTaken);
        Due.test("To PLACE: its lowest pages become a span", HeapBoundsTest::theLowestPagesOfTheRunAreTaken);
        Due.test("To PLACE: a run of the last page", HeapBoundsTest::aRunAtTheEndOfTheHeap);
        Due.test("To PLACE: a span up to the last page", HeapBoundsTest::aLargeSpanThatEndsTheHeap);
        Due.test("To PLACE: a span, which is not unswept", HeapBoundsTest::aNewSpanIsNotUnswept);
        Due.test("To PLACE: if there is no such run", HeapBoundsTest::freePagesThatAreNoRunDoNotHelp);
        Due.close();
    }
}
