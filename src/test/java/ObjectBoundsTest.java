/** The boundary cases of promises 9 to 13, 20 and 21; refused calls are in RefusalsTest, placing is in HeapBoundsTest. */
public final class ObjectBoundsTest {
    private static final int NIL = FiberHeap.NIL;
    private static final int NONE = FiberHeap.NONE;
    private static final int FULL = FiberHeap.FULL;

    // ---- promise 9: what is just not refused

    private static void theLeastAndTheMostWords() {
        FiberHeap x = new FiberHeap();
        Due.is("make(0, 0, 0, 0)", x.make(0, 0, 0, 0), NONE);
        Due.is("make(0, 0, 1, 0)", x.make(0, 0, 1, 0), 0);
        Due.is("make(0, 1, 64, 0)", x.make(0, 1, 64, 0), 16);
        Due.is("make(0, 2, 65, 0)", x.make(0, 2, 65, 0), NONE);
        Due.is("count(0)", x.count(0), 2);
        Due.is("the cell stays: fiber(0, 6)", x.fiber(0, 6), NIL);
    }

    private static void theLeastAndTheMostPointers() {
        for (int words : new int[] {1, 2, 7, 64}) {
            FiberHeap x = new FiberHeap();
            Due.is("make(0, 0, " + words + ", -1)", x.make(0, 0, words, -1), NONE);
            Due.is("make(0, 0, " + words + ", " + (words + 1) + ")", x.make(0, 0, words, words + 1), NONE);
            Due.is("count(0)", x.count(0), 0);
            Due.is("make(0, 0, " + words + ", 0)", x.make(0, 0, words, 0), 0);
            Due.yes("make(0, 0, " + words + ", " + words + ")", x.make(0, 0, words, words) > 0);
        }
    }

    private static void theCellThatHoldsIt() {
        for (int k = 0; k < 5; k++) {
            FiberHeap x = new FiberHeap();
            x.aim(0, 1);
            x.call(0);
            Due.is("make(0, " + k + ", 2, 0)", x.make(0, k, 2, 0), 0);
            for (int cell = 0; cell < 4; cell++) {
                Due.is("cell " + k + ": fiber(0, " + (4 + cell) + ")", x.fiber(0, 4 + cell), cell == k ? 0 : NIL);
            }
            x.leave(0);
            Due.is("cell " + k + ": the frame before: fiber(0, 5)", x.fiber(0, 5), k == 4 ? 0 : NIL);
        }
    }

    // ---- promise 9: FRESH and TRIGGER

    private static void freshGrowsByTheSlot() {
        int[][] wordsAndSlot = {{1, 2}, {2, 2}, {3, 4}, {4, 4}, {5, 8}, {8, 8}, {9, 16}, {16, 16}, {17, 32}, {32, 32},
            {33, 48}, {48, 48}, {49, 64}, {64, 64}};
        for (int[] due : wordsAndSlot) {
            FiberHeap x = new FiberHeap();
            x.make(0, 0, 2, 0);
            x.make(0, 1, due[0], 0);
            Due.is(due[0] + " words: count(9)", x.count(9), 2 + due[1]);
        }
    }

    private static void freshIsLessThanTrigger() {
        FiberHeap x = Scenes.inARow(48, 8, 4, 2);
        Due.is("count(9)", x.count(9), 62);
        x.make(0, 3, 64, 0);
        Due.is("no cycle: count(6)", x.count(6), 0);
        Due.is("no work: count(7)", x.count(7), 0);
        Due.is("count(9)", x.count(9), 126);
    }

    private static void freshIsTrigger() {
        FiberHeap x = Scenes.inARow(48, 8, 4, 4);
        Due.is("count(9)", x.count(9), 64);
        Due.is("count(6)", x.count(6), 0);
        x.make(0, 3, 2, 0);
        Due.is("a cycle: count(6)", x.count(6), 1);
        Due.is("count(4)", x.count(4), 1);
    }

    private static void freshIsMoreThanTrigger() {
        FiberHeap x = Scenes.inARow(48, 8, 4, 2);
        x.make(0, 3, 4, 0);
        Due.is("count(9)", x.count(9), 66);
        x.make(0, 3, 2, 0);
        Due.is("a cycle: count(6)", x.count(6), 1);
    }

    private static void aHigherTrigger() {
        FiberHeap x = Scenes.inARow(64, 64, 2);
        Scenes.cleanUp(x);
        Due.is("count(10)", x.count(10), 65);
        int cycles = x.count(6);
        x.make(0, 3, 60, 0);
        x.make(0, 3, 2, 0);
        Due.is("64 are less than 65: count(6)", x.count(6), cycles);
        Due.is("count(9)", x.count(9), 66);
        x.make(0, 3, 2, 0);
        Due.is("66 are not: count(6)", x.count(6), cycles + 1);
    }

    private static void noCycleBeginsWhileItIsMarking() {
        FiberHeap x = Scenes.list(31, 2);
        x.make(0, 1, 2, 0);
        Due.is("count(9)", x.count(9), 64);
        x.collect();
        for (int i = 0; i < 8; i++) {
            x.make(0, 1, 2, 0);
            Due.is("count(6)", x.count(6), 1);
            Due.is("count(7)", x.count(7), 2 * i + 2);
            Due.is("count(9)", x.count(9), 66 + 2 * i);
        }
    }

    private static void noWorkAtRest() {
        FiberHeap x = new FiberHeap();
        x.make(0, 0, 2, 0);
        x.make(0, 1, 32, 0);
        Due.is("count(7)", x.count(7), 0);
        Due.is("count(6)", x.count(6), 0);
    }

    private static void itWorksTheWordsOfTheSlot() {
        int[][] wordsAndSlot = {{1, 2}, {2, 2}, {3, 4}, {4, 4}, {5, 8}, {8, 8}, {9, 16}, {16, 16}, {17, 32}, {32, 32},
            {33, 48}, {48, 48}, {49, 64}, {64, 64}};
        for (int[] due : wordsAndSlot) {
            FiberHeap x = Scenes.list(70, 2);
            x.mark(Scenes.MAX);
            x.collect();
            int before = x.count(7);
            x.make(0, 1, due[0], 0);
            Due.is(due[0] + " words: count(7)", x.count(7) - before, due[1]);
            Due.is(due[0] + " words: count(4)", x.count(4), 1);
        }
    }

    private static void itWorksAsMuchAsThereIs() {
        FiberHeap x = Scenes.list(7, 2);
        x.collect();
        x.make(0, 1, 8, 0);
        Due.is("8 are 1 and 7: count(7)", x.count(7), 8);
        Due.is("it has ended: count(4)", x.count(4), 0);
        x = Scenes.list(8, 2);
        x.collect();
        x.make(0, 1, 8, 0);
        Due.is("one is left: count(7)", x.count(7), 8);
        Due.is("count(4)", x.count(4), 1);
        x = Scenes.list(6, 2);
        x.collect();
        x.make(0, 1, 8, 0);
        Due.is("there are 7: count(7)", x.count(7), 7);
        Due.is("count(4)", x.count(4), 0);
    }

    private static void theCycleThatItBeginsIsWorkedAtOnce() {
        FiberHeap x = new FiberHeap();
        x.make(0, 0, 64, 0);
        Due.is("count(7)", x.count(7), 0);
        x.make(0, 1, 1, 0);
        Due.is("a stack and an object: count(7)", x.count(7), 2);
        Due.is("it has ended: count(4)", x.count(4), 0);
        Due.is("FRESH of this one alone: count(9)", x.count(9), 2);
        Due.is("count(6)", x.count(6), 1);
    }

    // ---- promise 9: it can't be placed

    private static FiberHeap fullOfFour() {
        FiberHeap x = Scenes.inARow(64, 64, 64, 64);
        Scenes.cleanUp(x);
        return x;
    }

    private static void theWorkUntilMarkingHasEnded() {
        FiberHeap x = fullOfFour();
        for (int f = 1; f < 6; f++) {
            x.spawn(0, -1);
        }
        x.copy(0, 2, -1);
        x.collect();
        int before = x.count(7);
        int cycles = x.count(6);
        Due.is("it is marking: make(0, 2, 1, 0)", x.make(0, 2, 1, 0), 128);
        Due.is("six stacks and three objects, not two pieces: count(7)", x.count(7) - before, 9);
        Due.is("no further cycle: count(6)", x.count(6), cycles);
        Due.is("at rest: count(4)", x.count(4), 0);
        Due.is("all were swept: count(5)", x.count(5), 0);
        Due.is("FRESH of this one alone: count(9)", x.count(9), 2);
    }

    private static void theUnsweptSpansInAnyCase() {
        FiberHeap x = fullOfFour();
        x.copy(0, 1, -1);
        x.collect();
        x.mark(99);
        int cycles = x.count(6);
        int pieces = x.count(7);
        Due.is("it is at rest: make(0, 1, 64, 0)", x.make(0, 1, 64, 0), 64);
        Due.is("no cycle: count(6)", x.count(6), cycles);
        Due.is("no work: count(7)", x.count(7), pieces);
        Due.is("all were swept: count(5)", x.count(5), 0);
        Due.is("count(11)", x.count(11), 1);
    }

    private static void theCycleThatFollows() {
        FiberHeap x = fullOfFour();
        x.copy(0, 3, -1);
        int cycles = x.count(6);
        int pieces = x.count(7);
        Due.is("none is unswept: make(0, 3, 64, 0)", x.make(0, 3, 64, 0), 192);
        Due.is("count(6)", x.count(6), cycles + 1);
        Due.is("a stack and three objects: count(7)", x.count(7), pieces + 4);
        Due.is("at rest: count(4)", x.count(4), 0);
        Due.is("all were swept: count(5)", x.count(5), 0);
        Due.is("count(9)", x.count(9), 64);
        Due.is("half of 192: count(10)", x.count(10), 96);
    }

    private static void theCycleThatFollowsAMarking() {
        FiberHeap x = fullOfFour();
        x.collect();
        x.mark(1);
        x.copy(0, 3, -1);
        int cycles = x.count(6);
        Due.is("this marking keeps it, the next does not: make(0, 3, 33, 0)", x.make(0, 3, 33, 0), 192);
        Due.is("count(6)", x.count(6), cycles + 1);
        Due.is("count(9)", x.count(9), 48);
    }

    private static void fullAtRest() {
        FiberHeap x = fullOfFour();
        int cycles = x.count(6);
        int pieces = x.count(7);
        for (int words : new int[] {1, 3, 5, 9, 64}) {
            Due.is("make(0, 3, " + words + ", 0)", x.make(0, 3, words, 0), FULL);
            Due.is("one cycle: count(6)", x.count(6), ++cycles);
            pieces += 5;
            Due.is("a stack and four objects: count(7)", x.count(7), pieces);
        }
        Due.is("the cell stays: fiber(0, 7)", x.fiber(0, 7), 192);
        Due.is("FRESH does not grow: count(9)", x.count(9), 0);
        Due.is("count(10)", x.count(10), 128);
        Due.is("at rest: count(4)", x.count(4), 0);
        Due.is("nothing is unswept: count(5)", x.count(5), 0);
        Due.is("nothing is freed: count(11)", x.count(11), 0);
    }

    private static void fullWhileItIsMarking() {
        FiberHeap x = fullOfFour();
        x.collect();
        int cycles = x.count(6);
        int pieces = x.count(7);
        Due.is("make(0, 3, 1, 0)", x.make(0, 3, 1, 0), FULL);
        Due.is("one cycle more: count(6)", x.count(6), cycles + 1);
        Due.is("both worked to their ends: count(7)", x.count(7), pieces + 10);
        Due.is("at rest: count(4)", x.count(4), 0);
    }

    private static void fullWhenFreshIsTrigger() {
        FiberHeap x = Scenes.inARow(64, 64);
        Scenes.cleanUp(x);
        x.call(0);
        int[] words = {48, 8, 4, 2};
        for (int k = 0; k < 4; k++) {
            x.make(0, k, words[k], 0);
        }
        x.call(0);
        x.make(0, 0, 32, 0);
        Due.is("no page is free: count(2)", x.count(2), 0);
        Due.is("FRESH: count(9)", x.count(9), 94);
        Due.is("TRIGGER: count(10)", x.count(10), 64);
        Due.is("at rest: count(4)", x.count(4), 0);
        int cycles = x.count(6);
        Due.is("make(0, 1, 9, 0)", x.make(0, 1, 9, 0), FULL);
        Due.is("one for FRESH, one for want of place: count(6)", x.count(6), cycles + 2);
        Due.is("count(9)", x.count(9), 0);
    }

    private static void fullThroughTheRef() {
        FiberHeap x = fullOfFour();
        x.aim(0, 2);
        x.call(0);
        Due.is("make(0, 4, 1, 0)", x.make(0, 4, 1, 0), FULL);
        x.leave(0);
        Due.is("the cell stays: fiber(0, 6)", x.fiber(0, 6), 128);
    }

    private static void whatTheCellHoldsIsKeptMeanwhile() {
        FiberHeap x = fullOfFour();
        x.store(0, 1, 63, 5);
        Due.is("in place of the only pointer: make(0, 1, 64, 0)", x.make(0, 1, 64, 0), FULL);
        Due.is("it is still there: load(0, 1, 63)", x.load(0, 1, 63), 5);
        x.copy(0, 1, -1);
        Due.is("make(0, 1, 64, 0)", x.make(0, 1, 64, 0), 64);
        Due.is("load(0, 1, 63)", x.load(0, 1, 63), 0);
    }

    private static void aSmallerOneStillFits() {
        FiberHeap x = Scenes.inARow(64, 64, 64, 33);
        Scenes.cleanUp(x);
        x.call(0);
        Due.is("one page is free: make(0, 0, 17, 0)", x.make(0, 0, 17, 0), FULL);
        Due.is("make(0, 0, 16, 0)", x.make(0, 0, 16, 0), 240);
        Due.is("none is free: make(0, 1, 1, 0)", x.make(0, 1, 1, 0), FULL);
    }

    // ---- promises 10 to 13

    private static void setOfTheFirstAndTheLastPointerWord() {
        FiberHeap x = new FiberHeap();
        x.make(0, 1, 16, 0);
        x.make(0, 0, 64, 40);
        for (int w : new int[] {0, 39}) {
            Due.yes("set(0, 0, " + w + ", 0)", x.set(0, 0, w, 0));
            Due.yes("get(0, 2, 0, " + w + ")", x.get(0, 2, 0, w));
            Due.is("fiber(0, 6)", x.fiber(0, 6), 16);
        }
        for (int w : new int[] {-1, 40, 63, 64, Scenes.MIN, Scenes.MAX, Scenes.MAX - 15}) {
            Due.no("set(0, 0, " + w + ", 0)", x.set(0, 0, w, 0));
            Due.no("get(0, 2, 0, " + w + ")", x.get(0, 2, 0, w));
        }
        for (int w = 40; w < 64; w++) {
            Due.is("no int word changed: load(0, 0, " + w + ")", x.load(0, 0, w), 0);
        }
    }

    private static void setFromEveryCell() {
        for (int from = -1; from <= 4; from++) {
            for (int k = 0; k <= 4; k++) {
                FiberHeap x = new FiberHeap();
                for (int i = 0; i < 4; i++) {
                    x.make(0, i, 2, 1);
                }
                x.aim(0, 1);
                x.call(0);
                x.copy(0, 1, 0);
                int[] held = {0, 0, 4, 6, 2};
                Due.yes("set(0, " + k + ", 0, " + from + ")", x.set(0, k, 0, from));
                x.get(0, 3, k, 0);
                int due = from == -1 ? NIL : held[from];
                Due.is("set(0, " + k + ", 0, " + from + "): fiber(0, 7)", x.fiber(0, 7), due);
            }
        }
    }

    private static void setOfNilOverAPointer() {
        FiberHeap x = new FiberHeap();
        x.make(0, 0, 2, 2);
        x.set(0, 0, 0, 0);
        x.set(0, 0, 1, 0);
        Due.yes("from is -1: set(0, 0, 1, -1)", x.set(0, 0, 1, -1));
        x.get(0, 1, 0, 1);
        Due.is("fiber(0, 5)", x.fiber(0, 5), NIL);
        Due.yes("from a cell that holds NIL: set(0, 0, 0, 3)", x.set(0, 0, 0, 3));
        x.copy(0, 1, 0);
        x.get(0, 1, 0, 0);
        Due.is("fiber(0, 5)", x.fiber(0, 5), NIL);
    }

    private static void setThroughACellThatHoldsNil() {
        FiberHeap x = new FiberHeap();
        x.make(0, 0, 2, 1);
        Due.no("set(0, 1, 0, 0)", x.set(0, 1, 0, 0));
        Due.no("get(0, 2, 1, 0)", x.get(0, 2, 1, 0));
        Due.no("store(0, 1, 1, 4)", x.store(0, 1, 1, 4));
        Due.is("load(0, 1, 1)", x.load(0, 1, 1), 0);
        x.aim(0, 1);
        Due.no("the REF's cell: set(0, 4, 0, 0)", x.set(0, 4, 0, 0));
        Due.no("the REF's cell: get(0, 2, 4, 0)", x.get(0, 2, 4, 0));
        Due.no("the REF's cell: store(0, 4, 1, 4)", x.store(0, 4, 1, 4));
        Due.is("the REF's cell: load(0, 4, 1)", x.load(0, 4, 1), 0);
        x.get(0, 3, 0, 0);
        Due.is("the object at address 0 stays: fiber(0, 7)", x.fiber(0, 7), NIL);
        Due.is("load(0, 0, 1)", x.load(0, 0, 1), 0);
    }

    private static void getIntoEveryCell() {
        for (int to = 0; to <= 4; to++) {
            for (int k = 0; k <= 4; k++) {
                FiberHeap x = new FiberHeap();
                x.make(0, 3, 16, 0);
                x.make(0, 1, 2, 1);
                x.set(0, 1, 0, 3);
                x.copy(0, 0, 1);
                x.copy(0, 2, 1);
                x.copy(0, 3, 1);
                x.aim(0, 1);
                x.call(0);
                Due.yes("get(0, " + to + ", " + k + ", 0)", x.get(0, to, k, 0));
                for (int cell = 0; cell < 4; cell++) {
                    int due = cell == to ? 0 : 16;
                    Due.is("get(0, " + to + ", " + k + ", 0): fiber(0, " + (4 + cell) + ")", x.fiber(0, 4 + cell), due);
                }
                x.leave(0);
                Due.is("get(0, " + to + ", " + k + ", 0): frame before: fiber(0, 5)", x.fiber(0, 5), to == 4 ? 0 : 16);
            }
        }
    }

    private static void getOfNil() {
        FiberHeap x = new FiberHeap();
        x.make(0, 0, 2, 1);
        x.copy(0, 1, 0);
        Due.yes("get(0, 1, 0, 0)", x.get(0, 1, 0, 0));
        Due.is("fiber(0, 5)", x.fiber(0, 5), NIL);
    }

    private static void storeOfTheFirstAndTheLastIntWord() {
        FiberHeap x = new FiberHeap();
        x.make(0, 0, 64, 40);
        for (int w : new int[] {40, 63}) {
            Due.yes("store(0, 0, " + w + ", " + w + ")", x.store(0, 0, w, w));
            Due.is("load(0, 0, " + w + ")", x.load(0, 0, w), w);
        }
        for (int w : new int[] {-1, 0, 39, 64, 65, Scenes.MIN, Scenes.MAX}) {
            Due.no("store(0, 0, " + w + ", 7)", x.store(0, 0, w, 7));
            Due.is("load(0, 0, " + w + ")", x.load(0, 0, w), 0);
        }
        for (int w = 0; w < 40; w++) {
            x.copy(0, 1, 0);
            x.get(0, 1, 0, w);
            Due.is("no pointer word changed: fiber(0, 5)", x.fiber(0, 5), NIL);
        }
    }

    private static void storeOfEveryKindOfValue() {
        FiberHeap x = new FiberHeap();
        x.make(0, 0, 2, 0);
        for (int v : new int[] {Scenes.MAX, Scenes.MIN, -1, -2, 0, 4, 256}) {
            Due.yes("store(0, 0, 1, " + v + ")", x.store(0, 0, 1, v));
            Due.is("load(0, 0, 1)", x.load(0, 0, 1), v);
        }
        Due.is("its other word: load(0, 0, 0)", x.load(0, 0, 0), 0);
    }

    private static void loadOfAPointerWord() {
        FiberHeap x = new FiberHeap();
        x.make(0, 1, 16, 0);
        x.make(0, 0, 2, 2);
        x.set(0, 0, 0, 0);
        Due.is("it holds 16: load(0, 0, 0)", x.load(0, 0, 0), 0);
        Due.is("it holds NIL: load(0, 0, 1)", x.load(0, 0, 1), 0);
    }

    private static void loadBehindTheLastWord() {
        FiberHeap x = new FiberHeap();
        x.make(0, 0, 2, 0);
        x.make(0, 1, 2, 0);
        x.store(0, 0, 1, 7);
        x.store(0, 1, 0, 8);
        Due.is("the neighbour's: load(0, 0, 2)", x.load(0, 0, 2), 0);
        Due.is("the neighbour's: load(0, 1, -1)", x.load(0, 1, -1), 0);
        Due.no("the neighbour's: store(0, 0, 2, 9)", x.store(0, 0, 2, 9));
        Due.no("the neighbour's: store(0, 1, -1, 9)", x.store(0, 1, -1, 9));
        Due.is("load(0, 0, 1)", x.load(0, 0, 1), 7);
        Due.is("load(0, 1, 0)", x.load(0, 1, 0), 8);
    }

    private static void loadOfOneThatWaits() {
        FiberHeap x = new FiberHeap();
        x.make(0, 0, 2, 0);
        x.store(0, 0, 1, 7);
        x.send(0, 0, 0);
        Due.is("load(0, 0, 1)", x.load(0, 0, 1), 0);
        x.wake(0);
        Due.is("load(0, 0, 1)", x.load(0, 0, 1), 7);
        x.take(0, 1, 1, 1);
        Due.is("load(0, 0, 1)", x.load(0, 0, 1), 0);
    }

    // ---- promises 20 and 21

    private static void countsThatAreNone() {
        FiberHeap x = Scenes.list(3, 2);
        for (int what : new int[] {-1, -2, 12, 13, 64, Scenes.MIN, Scenes.MAX}) {
            Due.is("count(" + what + ")", x.count(what), NONE);
        }
        Due.is("the first: count(0)", x.count(0), 3);
        Due.is("the last: count(11)", x.count(11), 0);
    }

    private static void countsOfAnEmptyAndOfAFullHeap() {
        FiberHeap x = new FiberHeap();
        Due.is("count(0)", x.count(0), 0);
        Due.is("count(1)", x.count(1), 0);
        Due.is("count(2)", x.count(2), 16);
        Due.is("count(3)", x.count(3), 16);
        x = fullOfFour();
        Due.is("count(0)", x.count(0), 4);
        Due.is("count(1)", x.count(1), 256);
        Due.is("count(2)", x.count(2), 0);
        Due.is("no run: count(3)", x.count(3), 0);
        for (int k = 0; k < 4; k++) {
            x.copy(0, k, -1);
        }
        Scenes.cleanUp(x);
        Due.is("count(0)", x.count(0), 0);
        Due.is("count(1)", x.count(1), 0);
        Due.is("count(2)", x.count(2), 16);
        Due.is("count(3)", x.count(3), 16);
        Due.is("count(11)", x.count(11), 4);
    }

    private static void wordsOfSlotsNotOfObjects() {
        FiberHeap x = Scenes.inARow(1, 3, 5, 9);
        Due.is("2 + 4 + 8 + 16: count(1)", x.count(1), 30);
        Due.is("count(0)", x.count(0), 4);
    }

    private static void whatIsNotSweptYetIsTaken() {
        FiberHeap x = Scenes.inARow(1, 3, 5, 9);
        for (int k = 0; k < 4; k++) {
            x.copy(0, k, -1);
        }
        x.collect();
        x.mark(9);
        Due.is("count(0)", x.count(0), 4);
        Due.is("count(1)", x.count(1), 30);
        Due.is("count(2)", x.count(2), 12);
        Due.is("count(5)", x.count(5), 4);
        x.sweep(2);
        Due.is("count(0)", x.count(0), 2);
        Due.is("count(1)", x.count(1), 24);
        Due.is("count(2)", x.count(2), 14);
        Due.is("pages 4 to 15: count(3)", x.count(3), 12);
        Due.is("count(5)", x.count(5), 2);
        Due.is("count(11)", x.count(11), 2);
        x.sweep(2);
        Due.is("count(3)", x.count(3), 16);
    }

    private static void theLongestRunWhereverItIs() {
        FiberHeap x = Scenes.inARow(64, 16, 64, 16);
        Due.is("pages 10 to 15: count(3)", x.count(3), 6);
        x.copy(0, 0, -1);
        x.copy(0, 1, -1);
        Scenes.cleanUp(x);
        Scenes.pages(x, 0, 0, 0, 0, 0, 64, 1, 1, 1, 16, 0, 0, 0, 0, 0, 0);
        Due.is("the longer of two, not both: count(3)", x.count(3), 6);
        x.make(0, 0, 49, 0);
        Due.is("page 4, and pages 10 to 15: count(3)", x.count(3), 6);
        x.make(0, 1, 49, 0);
        Due.is("page 4, and pages 14 and 15: count(3)", x.count(3), 2);
        x.call(0);
        x.make(0, 0, 17, 0);
        Due.is("page 4: count(3)", x.count(3), 1);
        FiberHeap y = Scenes.inARow(64, 64, 64, 16);
        y.copy(0, 0, -1);
        Scenes.cleanUp(y);
        Due.is("pages 0 to 3, the first of the heap: count(3)", y.count(3), 4);
        Due.is("count(2)", y.count(2), 7);
    }

    private static void pagesThatAreNone() {
        FiberHeap x = fullOfFour();
        for (int p : new int[] {-1, -2, 16, 17, 256, Scenes.MIN, Scenes.MAX}) {
            Due.is("page(" + p + ")", x.page(p), NONE);
        }
        Due.is("the first: page(0)", x.page(0), 64);
        Due.is("the last: page(15)", x.page(15), 1);
    }

    private static void everyKindOfPage() {
        FiberHeap x = Scenes.inARow(2, 4, 8, 16);
        x.call(0);
        x.make(0, 0, 32, 0);
        x.make(0, 1, 48, 0);
        x.make(0, 2, 64, 0);
        Scenes.pages(x, 2, 4, 8, 16, 32, 1, 48, 1, 1, 64, 1, 1, 1, 0, 0, 0);
    }

    private static void constants() {
        Due.is("NIL", FiberHeap.NIL, -1);
        Due.is("NONE", FiberHeap.NONE, -1);
        Due.is("FULL", FiberHeap.FULL, -2);
        Due.is("WAITS", FiberHeap.WAITS, 4);
    }

    private static void make() {
        Due.test("9: words is not 1 .. 64", ObjectBoundsTest::theLeastAndTheMostWords);
        Due.test("9: pointers is not 0 .. words", ObjectBoundsTest::theLeastAndTheMostPointers);
        Due.test("9: which cell k of fiber f holds then", ObjectBoundsTest::theCellThatHoldsIt);
        Due.test("9: FRESH grows by the number of words of its slot", ObjectBoundsTest::freshGrowsByTheSlot);
        Due.test("9: FRESH is at least TRIGGER: less", ObjectBoundsTest::freshIsLessThanTrigger);
        Due.test("9: FRESH is at least TRIGGER: the same", ObjectBoundsTest::freshIsTrigger);
        Due.test("9: FRESH is at least TRIGGER: more", ObjectBoundsTest::freshIsMoreThanTrigger);
        Due.test("9: FRESH is at least TRIGGER: a higher one", ObjectBoundsTest::aHigherTrigger);
        Due.test("9: if the collector is at rest", ObjectBoundsTest::noCycleBeginsWhileItIsMarking);
        Due.test("9: if it is marking, it works", ObjectBoundsTest::noWorkAtRest);
        Due.test("9: n being the number of words of the slot", ObjectBoundsTest::itWorksTheWordsOfTheSlot);
        Due.test("9: it works n, or what is left", ObjectBoundsTest::itWorksAsMuchAsThereIs);
        Due.test("9: a cycle begins; then it works", ObjectBoundsTest::theCycleThatItBeginsIsWorkedAtOnce);
        Due.test("9: can't be placed: it works until marking has ended", ObjectBoundsTest::theWorkUntilMarkingHasEnded);
        Due.test("9: can't be placed: all unswept spans are swept", ObjectBoundsTest::theUnsweptSpansInAnyCase);
        Due.test("9: still can't be placed: a cycle begins", ObjectBoundsTest::theCycleThatFollows);
        Due.test("9: still can't be placed: after a marking", ObjectBoundsTest::theCycleThatFollowsAMarking);
        Due.test("9: FULL at rest", ObjectBoundsTest::fullAtRest);
        Due.test("9: FULL while it is marking", ObjectBoundsTest::fullWhileItIsMarking);
        Due.test("9: FULL when FRESH is at least TRIGGER", ObjectBoundsTest::fullWhenFreshIsTrigger);
        Due.test("9: FULL, and cell k stays: the REF's", ObjectBoundsTest::fullThroughTheRef);
        Due.test("9: FULL, and cell k stays: it keeps what it holds", ObjectBoundsTest::whatTheCellHoldsIsKeptMeanwhile);
        Due.test("9: FULL for a larger one only", ObjectBoundsTest::aSmallerOneStillFits);
    }

    private static void wordsAndQuestions() {
        Due.test("10: the number (from 0) of a pointer word", ObjectBoundsTest::setOfTheFirstAndTheLastPointerWord);
        Due.test("10: what cell from holds, NIL if from is -1", ObjectBoundsTest::setFromEveryCell);
        Due.test("10: NIL", ObjectBoundsTest::setOfNilOverAPointer);
        Due.test("10 to 13: k holds NIL", ObjectBoundsTest::setThroughACellThatHoldsNil);
        Due.test("11: cell to becomes what the word holds", ObjectBoundsTest::getIntoEveryCell);
        Due.test("11: NIL", ObjectBoundsTest::getOfNil);
        Due.test("12: the number of an int word", ObjectBoundsTest::storeOfTheFirstAndTheLastIntWord);
        Due.test("12: word w becomes v", ObjectBoundsTest::storeOfEveryKindOfValue);
        Due.test("13: 0 when store() would be refused: a pointer word", ObjectBoundsTest::loadOfAPointerWord);
        Due.test("13: 0 when store() would be refused: no word", ObjectBoundsTest::loadBehindTheLastWord);
        Due.test("13: 0 when store() would be refused: f waits", ObjectBoundsTest::loadOfOneThatWaits);
        Due.test("20: NONE for other numbers", ObjectBoundsTest::countsThatAreNone);
        Due.test("20: 0 .. 3 of an empty and of a full heap", ObjectBoundsTest::countsOfAnEmptyAndOfAFullHeap);
        Due.test("20: the number of their words", ObjectBoundsTest::wordsOfSlotsNotOfObjects);
        Due.test("20: slots that are taken, unswept spans", ObjectBoundsTest::whatIsNotSweptYetIsTaken);
        Due.test("20: the length of the longest run", ObjectBoundsTest::theLongestRunWhereverItIs);
        Due.test("21: NONE when p is not 0 .. 15", ObjectBoundsTest::pagesThatAreNone);
        Due.test("21: what page p is", ObjectBoundsTest::everyKindOfPage);
        Due.test("The constants", ObjectBoundsTest::constants);
    }

    public static void main(String[] args) {
        make();
        wordsAndQuestions();
        Due.close();
    }
}
