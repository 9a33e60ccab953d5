/** The boundary cases of CYCLES and PIECES OF WORK in the document's terms, and of promises 16 to 18. */
public final class CollectorBoundsTest {
    private static FiberHeap begun(FiberHeap x) {
        x.collect();
        return x;
    }

    // ---- a cycle begins

    private static void atFirst() {
        FiberHeap x = new FiberHeap();
        Due.is("at rest: count(4)", x.count(4), 0);
        Due.is("FRESH: count(9)", x.count(9), 0);
        Due.is("TRIGGER: count(10)", x.count(10), 64);
        Due.is("no cycle: count(6)", x.count(6), 0);
        Due.is("no piece: count(7)", x.count(7), 0);
        Due.is("mark(1)", x.mark(1), 0);
    }

    private static void allUnsweptSpansAreSwept() {
        FiberHeap x = Scenes.inARow(2, 16, 4, 64);
        x.copy(0, 0, -1);
        x.copy(0, 3, -1);
        x.collect();
        x.mark(99);
        Due.is("count(5)", x.count(5), 4);
        x.sweep(1);
        Due.yes("collect()", x.collect());
        Due.is("the rest of them: count(5)", x.count(5), 0);
        Due.is("count(11)", x.count(11), 2);
        Scenes.pages(x, 0, 16, 4, 0, 0, 0, 0);
    }

    private static void noneIsUnswept() {
        FiberHeap x = Scenes.inARow(2, 16);
        x.copy(0, 0, -1);
        x.collect();
        Due.is("nothing is freed: count(0)", x.count(0), 2);
        Due.is("count(11)", x.count(11), 0);
    }

    private static void noFiberIsScanned() {
        FiberHeap x = Scenes.sixFibers();
        for (int cycle = 0; cycle < 2; cycle++) {
            x.collect();
            for (int f = 0; f < 6; f++) {
                Due.is("fiber(" + f + ", 3)", x.fiber(f, 3), 0);
            }
            Due.is("all six, and their objects: mark(99)", x.mark(99), 12);
        }
    }

    private static void noObjectIsLookedAt() {
        FiberHeap x = Scenes.list(5, 2);
        for (int cycle = 0; cycle < 3; cycle++) {
            x.collect();
            Due.is("cycle " + cycle + ": mark(99)", x.mark(99), 6);
        }
    }

    private static void whatIsInTheChannelsIsNoted() {
        for (int c = 1; c < 4; c++) {
            FiberHeap x = new FiberHeap();
            for (int i = 0; i < c; i++) {
                x.make(0, 0, 2, 0);
                x.send(0, 0, c);
            }
            x.copy(0, 0, -1);
            x.collect();
            Due.is("a full channel " + c + ": mark(99)", x.mark(99), 1 + c);
            x.sweep(9);
            Due.is("count(0)", x.count(0), c);
        }
    }

    private static void whatHasLeftAChannelIsNotNoted() {
        FiberHeap x = new FiberHeap();
        for (int i = 0; i < 3; i++) {
            x.make(0, 0, 2, 0);
            x.send(0, 0, 3);
        }
        x.take(0, 0, 3, 3);
        x.take(0, 0, 3, 3);
        x.copy(0, 0, -1);
        x.collect();
        Due.is("one is left in it: mark(99)", x.mark(99), 2);
        x.sweep(9);
        Due.is("count(0)", x.count(0), 1);
        x.take(0, 0, 3, 3);
        Due.is("the last: fiber(0, 4)", x.fiber(0, 4), 4);
        x.copy(0, 0, -1);
        x.collect();
        Due.is("none is left in it: mark(99)", x.mark(99), 1);
    }

    private static void emptyChannelsAndNilGiveNothing() {
        FiberHeap x = new FiberHeap();
        x.make(0, 0, 2, 0);
        x.copy(0, 0, -1);
        x.send(0, 0, 2);
        x.collect();
        Due.is("mark(99)", x.mark(99), 1);
        x.sweep(9);
        Due.is("count(0)", x.count(0), 0);
    }

    // ---- what is noted

    private static void allCellsOfAllFrames() {
        for (int frames = 1; frames <= 16; frames += 5) {
            for (int k = 0; k < 4; k++) {
                FiberHeap x = new FiberHeap();
                for (int i = 1; i < frames; i++) {
                    x.call(0);
                }
                x.make(0, k, 2, 0);
                Due.is("only in cell " + k + " of frame " + frames + ": mark(9)", begun(x).mark(9), 2);
            }
        }
        for (int k = 0; k < 4; k++) {
            FiberHeap x = new FiberHeap();
            x.make(0, k, 2, 0);
            for (int i = 1; i < 16; i++) {
                x.call(0);
                x.copy(0, k, -1);
            }
            Due.is("only in cell " + k + " of the oldest of 16: mark(9)", begun(x).mark(9), 2);
        }
    }

    private static void noCellOfAFrameThatWasLeft() {
        FiberHeap x = new FiberHeap();
        for (int i = 1; i < 16; i++) {
            x.call(0);
        }
        x.make(0, 3, 2, 0);
        x.leave(0);
        Due.is("mark(9)", begun(x).mark(9), 1);
        x.sweep(9);
        Due.is("count(0)", x.count(0), 0);
    }

    private static void noCellOfAFiberThatEnded() {
        FiberHeap x = new FiberHeap();
        x.spawn(0, -1);
        x.make(1, 0, 2, 0);
        x.end(1);
        Due.is("mark(9)", begun(x).mark(9), 1);
        x.sweep(9);
        Due.is("count(0)", x.count(0), 0);
    }

    // Fiber 0 is scanned, and holds nothing; fiber 1 is not: cell 0 holds an object with a pointer word that points to
    // what no cell holds, cells 1 and 2 hold objects of their own.
    private static FiberHeap halfScanned() {
        FiberHeap x = new FiberHeap();
        x.spawn(0, -1);
        x.make(1, 3, 2, 0);
        x.make(1, 0, 2, 2);
        x.make(1, 1, 2, 2);
        x.make(1, 2, 2, 2);
        x.set(1, 0, 0, 3);
        x.copy(1, 3, -1);
        x.collect();
        x.mark(1);
        return x;
    }

    private static void whatTheWordHeldBeforeASet() {
        FiberHeap x = halfScanned();
        x.set(1, 0, 0, -1);
        x.end(1);
        Due.is("it alone is DUE: mark(9)", x.mark(9), 1);
        x.sweep(9);
        Due.is("count(0)", x.count(0), 1);
    }

    private static void whatTheWordHoldsAfterASet() {
        FiberHeap x = halfScanned();
        x.set(1, 1, 0, 2);
        x.end(1);
        Due.is("it alone is DUE: mark(9)", x.mark(9), 1);
        x.sweep(9);
        Due.is("count(0)", x.count(0), 1);
    }

    private static void whatTheWordHeldBeforeAndHoldsAfter() {
        FiberHeap x = halfScanned();
        x.set(1, 0, 0, 2);
        x.end(1);
        Due.is("both: mark(9)", x.mark(9), 2);
    }

    private static void aSetFromNilToNil() {
        FiberHeap x = halfScanned();
        Due.yes("set(1, 1, 0, -1)", x.set(1, 1, 0, -1));
        x.end(1);
        Due.is("NIL is nothing that is noted: mark(9)", x.mark(9), 0);
        Due.is("count(4)", x.count(4), 0);
    }

    private static void aSetThatIsRefused() {
        FiberHeap x = halfScanned();
        Due.no("set(1, 0, 2, 2)", x.set(1, 0, 2, 2));
        Due.no("set(1, 0, 0, 4)", x.set(1, 0, 0, 4));
        Due.no("set(1, 0, 0, -2)", x.set(1, 0, 0, -2));
        Due.no("set(1, 3, 0, 2)", x.set(1, 3, 0, 2));
        Due.no("set(0, 0, 0, -1)", x.set(0, 0, 0, -1));
        x.end(1);
        Due.is("mark(9)", x.mark(9), 0);
    }

    private static void aSetAtRest() {
        FiberHeap x = new FiberHeap();
        x.make(0, 0, 2, 1);
        x.make(0, 1, 2, 1);
        x.set(0, 0, 0, 1);
        x.set(0, 0, 0, -1);
        x.copy(0, 1, -1);
        Due.is("not noted in the marking that follows: mark(9)", begun(x).mark(9), 2);
    }

    private static void getAndCopyNoteNothing() {
        FiberHeap x = halfScanned();
        x.get(1, 3, 0, 0);
        x.copy(1, 1, 2);
        x.call(1);
        x.leave(1);
        x.store(1, 0, 0, 5);
        x.end(1);
        Due.is("mark(9)", x.mark(9), 0);
    }

    private static void spawnNotesNothing() {
        FiberHeap x = halfScanned();
        Due.is("spawn(1, 0)", x.spawn(1, 0), 2);
        x.end(1);
        x.copy(2, 0, -1);
        Due.is("the stack alone: mark(9)", x.mark(9), 1);
    }

    private static void whatEntersAChannel() {
        for (int c = 1; c < 4; c++) {
            FiberHeap x = halfScanned();
            x.send(1, 1, c);
            x.end(1);
            Due.is("send(1, 1, " + c + "): mark(9)", x.mark(9), 1);
            x.sweep(9);
            Due.is("count(0)", x.count(0), 1);
        }
    }

    private static void whatWaitsToEnterIsNotNoted() {
        for (int c = 0; c < 4; c++) {
            FiberHeap x = halfScanned();
            for (int i = 0; i < c; i++) {
                x.send(0, 0, c);
            }
            Due.is("send(1, 1, " + c + ")", x.send(1, 1, c), FiberHeap.WAITS);
            x.end(1);
            Due.is("mark(9)", x.mark(9), 0);
        }
    }

    private static void whatWaitedAndEntersInATake() {
        for (int c = 1; c < 4; c++) {
            FiberHeap x = halfScanned();
            for (int i = 0; i < c; i++) {
                x.send(0, 0, c);
            }
            x.send(1, 1, c);
            x.take(0, 0, c, c);
            x.end(1);
            Due.is("it entered channel " + c + ": mark(9)", x.mark(9), 1);
            x.sweep(9);
            Due.is("count(0)", x.count(0), 1);
        }
    }

    private static void whatGoesToAnotherFiberInASend() {
        for (int c = 0; c < 4; c++) {
            FiberHeap x = halfScanned();
            x.take(0, 0, c, c);
            x.send(1, 1, c);
            x.end(1);
            x.copy(0, 0, -1);
            Due.is("at " + c + ": mark(9)", x.mark(9), 1);
        }
    }

    private static void whatGoesToAnotherFiberInATake() {
        FiberHeap x = halfScanned();
        x.send(1, 1, 0);
        x.take(0, 0, 0, 0);
        x.end(1);
        x.copy(0, 0, -1);
        Due.is("mark(9)", x.mark(9), 1);
    }

    private static void aNilThatIsSent() {
        FiberHeap x = halfScanned();
        x.send(1, 3, 1);
        x.send(1, 3, 1);
        x.take(0, 0, 1, 1);
        x.end(1);
        Due.is("mark(9)", x.mark(9), 0);
    }

    private static void aNotedOneStaysNoted() {
        FiberHeap x = halfScanned();
        x.send(1, 1, 1);
        x.take(1, 3, 1, 1);
        x.end(1);
        Due.is("though nothing holds it any more: mark(9)", x.mark(9), 1);
        x.sweep(9);
        Due.is("it is kept: count(0)", x.count(0), 1);
    }

    private static void notedInAnEarlierMarkingOnly() {
        FiberHeap x = halfScanned();
        x.send(1, 1, 1);
        x.take(1, 3, 1, 1);
        x.end(1);
        x.mark(9);
        Due.is("in the next one: mark(9)", begun(x).mark(9), 1);
        x.sweep(9);
        Due.is("count(0)", x.count(0), 0);
    }

    // ---- NEW and DUE

    private static void placedWhileItIsMarking() {
        FiberHeap x = new FiberHeap();
        for (int i = 0; i < 3; i++) {
            x.spawn(0, -1);
        }
        x.collect();
        x.make(0, 0, 2, 1);
        Due.is("it is marking: count(4)", x.count(4), 1);
        x.copy(0, 0, -1);
        Due.is("not DUE: mark(9)", x.mark(9), 2);
        x.sweep(9);
        Due.is("but KEPT: count(0)", x.count(0), 1);
        Due.is("NEW no more: mark(9)", begun(x).mark(9), 4);
        x.sweep(9);
        Due.is("count(0)", x.count(0), 0);
    }

    private static void placedBeforeItBegins() {
        FiberHeap x = new FiberHeap();
        x.make(0, 0, 2, 1);
        x.copy(0, 0, -1);
        x.collect();
        x.mark(9);
        x.sweep(9);
        Due.is("not NEW: count(0)", x.count(0), 0);
    }

    private static void placedByTheMakeWhoseWorkEndsIt() {
        FiberHeap x = new FiberHeap();
        x.collect();
        x.make(0, 0, 2, 1);
        Due.is("it is at rest: count(4)", x.count(4), 0);
        Due.is("nothing was kept: count(10)", x.count(10), 64);
        Due.is("its span is not unswept: sweep(9)", x.sweep(9), 0);
        x.copy(0, 0, -1);
        x.collect();
        x.mark(9);
        x.sweep(9);
        Due.is("count(0)", x.count(0), 0);
    }

    private static void aNewOneThatIsNoted() {
        FiberHeap x = new FiberHeap();
        x.spawn(0, -1);
        x.spawn(0, -1);
        x.collect();
        x.make(2, 0, 1, 1);
        x.set(2, 0, 0, 0);
        x.send(2, 0, 3);
        Due.is("the last stack alone: mark(9)", x.mark(9), 1);
        x.sweep(9);
        Due.is("count(0)", x.count(0), 1);
    }

    private static void whatANewOnePointsTo() {
        FiberHeap x = new FiberHeap();
        x.spawn(0, -1);
        x.spawn(0, -1);
        x.make(2, 1, 2, 2);
        x.make(2, 2, 2, 2);
        x.set(2, 1, 0, 2);
        x.collect();
        x.make(2, 0, 1, 1);
        x.set(2, 0, 0, 1);
        x.copy(2, 1, -1);
        x.copy(2, 2, -1);
        Due.is("noted by set(), and what that one points to: mark(9)", x.mark(9), 3);
        x.sweep(9);
        Due.is("count(0)", x.count(0), 3);
    }

    private static void dueThroughEveryPointerWord() {
        for (int w = 0; w < 64; w += 21) {
            FiberHeap x = new FiberHeap();
            x.make(0, 0, 64, 64);
            x.make(0, 1, 2, 0);
            x.set(0, 0, w, 1);
            x.copy(0, 1, -1);
            x.mark(99);
            Due.is("word " + w + ": mark(9)", begun(x).mark(9), 3);
            x.sweep(9);
            Due.is("word " + w + ": count(0)", x.count(0), 2);
        }
    }

    private static void anIntWordIsNoPointer() {
        FiberHeap x = new FiberHeap();
        x.make(0, 1, 2, 0);
        x.make(0, 0, 4, 1);
        x.store(0, 0, 1, 0);
        x.store(0, 0, 2, 0);
        x.copy(0, 1, -1);
        Due.is("the address of an object is in int words: mark(9)", begun(x).mark(9), 2);
        x.sweep(9);
        Due.is("count(0)", x.count(0), 1);
    }

    private static void dueThroughARing() {
        FiberHeap x = new FiberHeap();
        for (int k = 0; k < 3; k++) {
            x.make(0, k, 2, 1);
        }
        x.set(0, 0, 0, 1);
        x.set(0, 1, 0, 2);
        x.set(0, 2, 0, 0);
        x.copy(0, 0, -1);
        x.copy(0, 2, -1);
        Due.is("one cell has them all: mark(9)", begun(x).mark(9), 4);
        x.copy(0, 1, -1);
        Due.is("no cell has one: mark(9)", begun(x).mark(9), 1);
        x.sweep(9);
        Due.is("count(0)", x.count(0), 0);
    }

    private static void dueThroughItself() {
        FiberHeap x = new FiberHeap();
        x.make(0, 0, 2, 2);
        x.set(0, 0, 0, 0);
        x.set(0, 0, 1, 0);
        Due.is("looked at once: mark(9)", begun(x).mark(9), 2);
        x.copy(0, 0, -1);
        Due.is("not by its own word alone: mark(9)", begun(x).mark(9), 1);
        x.sweep(9);
        Due.is("count(0)", x.count(0), 0);
    }

    private static void dueThroughTheLongestChain() {
        FiberHeap x = Scenes.list(128, 2);
        x.mark(Scenes.MAX);
        Due.is("128 objects and a stack: mark(MAX)", begun(x).mark(Scenes.MAX), 129);
        x.sweep(16);
        Due.is("count(0)", x.count(0), 128);
    }

    private static void setIntoOneThatWasLookedAt() {
        FiberHeap x = new FiberHeap();
        x.make(0, 0, 2, 1);
        x.spawn(0, 0);
        x.spawn(0, -1);
        x.make(2, 0, 2, 0);
        x.send(2, 0, 0);
        x.take(1, 1, 0, 0);
        x.copy(2, 0, -1);
        x.collect();
        Due.is("three stacks and the object of cell 0: mark(4)", x.mark(4), 4);
        x.set(1, 0, 0, 1);
        Due.is("mark(9)", x.mark(9), 1);
        Due.is("count(4)", x.count(4), 0);
    }

    // ---- pieces of work

    private static void theLowestStackFirst() {
        FiberHeap x = Scenes.sixFibers();
        x.end(0);
        x.end(3);
        x.collect();
        int[] order = {1, 2, 4, 5};
        for (int i = 0; i < 4; i++) {
            Due.is("mark(1)", x.mark(1), 1);
            for (int j = 0; j < 4; j++) {
                Due.is("piece " + i + ": fiber(" + order[j] + ", 3)", x.fiber(order[j], 3), j <= i ? 1 : 0);
            }
        }
    }

    private static void aLowerFiberThatBeginsToLive() {
        FiberHeap x = Scenes.sixFibers();
        x.end(0);
        x.collect();
        x.mark(3);
        Due.is("spawn(1, 0)", x.spawn(1, 0), 0);
        x.mark(1);
        Due.is("it is the next: fiber(0, 3)", x.fiber(0, 3), 1);
        Due.is("fiber(4, 3)", x.fiber(4, 3), 0);
    }

    private static void aStackBeforeAnyObject() {
        FiberHeap x = Scenes.list(4, 2);
        x.collect();
        x.mark(2);
        x.spawn(0, -1);
        Due.is("mark(1)", x.mark(1), 1);
        Due.is("fiber(1, 3)", x.fiber(1, 3), 1);
        Due.is("three objects are left: mark(9)", x.mark(9), 3);
    }

    private static void aFiberThatEndedIsNotScanned() {
        FiberHeap x = Scenes.sixFibers();
        x.collect();
        x.mark(5);
        x.end(5);
        Due.is("five objects are left: mark(9)", x.mark(9), 5);
    }

    private static void noStackIsScannedTwice() {
        FiberHeap x = new FiberHeap();
        x.make(0, 0, 2, 0);
        x.collect();
        x.mark(1);
        x.call(0);
        x.copy(0, 1, 0);
        Due.is("the object alone: mark(9)", x.mark(9), 1);
    }

    private static void workOfOnePieceLessThanThereIs() {
        FiberHeap x = Scenes.list(4, 2);
        x.collect();
        Due.is("mark(4)", x.mark(4), 4);
        Due.is("it is marking: count(4)", x.count(4), 1);
        Due.is("no span is unswept: count(5)", x.count(5), 0);
        Due.is("mark(1)", x.mark(1), 1);
        Due.is("it has ended: count(4)", x.count(4), 0);
        Due.is("count(5)", x.count(5), 1);
        Due.is("count(7)", x.count(7), 5);
    }

    private static void workOfJustAsMuchAsThereIs() {
        FiberHeap x = Scenes.list(4, 2);
        x.collect();
        Due.is("mark(5)", x.mark(5), 5);
        Due.is("it has ended: count(4)", x.count(4), 0);
    }

    private static void workOfMoreThanThereIs() {
        FiberHeap x = Scenes.list(4, 2);
        x.collect();
        Due.is("mark(6)", x.mark(6), 5);
        Due.is("it has ended: count(4)", x.count(4), 0);
        Due.is("count(7)", x.count(7), 5);
        x.collect();
        Due.is("mark(MAX)", x.mark(Scenes.MAX), 5);
        Due.is("count(7)", x.count(7), 10);
    }

    private static void workWhenNoneIsLeft() {
        FiberHeap x = new FiberHeap();
        x.spawn(0, -1);
        x.collect();
        x.mark(1);
        x.end(1);
        Due.is("no call but work ends it: count(4)", x.count(4), 1);
        Due.no("collect()", x.collect());
        Due.is("mark(1)", x.mark(1), 0);
        Due.is("count(4)", x.count(4), 0);
        Due.is("count(7)", x.count(7), 1);
    }

    private static void makeWhenNoWorkIsLeft() {
        FiberHeap x = new FiberHeap();
        x.spawn(0, -1);
        x.collect();
        x.mark(1);
        x.end(1);
        Due.is("make(0, 0, 2, 0)", x.make(0, 0, 2, 0), 0);
        Due.is("it ended before: count(4)", x.count(4), 0);
        Due.is("FRESH of this one: count(9)", x.count(9), 2);
        Due.is("count(7)", x.count(7), 1);
    }

    // ---- marking ends

    private static void everySpanBecomesUnswept() {
        FiberHeap x = Scenes.inARow(2, 4, 8, 64);
        x.call(0);
        x.make(0, 0, 16, 0);
        Scenes.settle(x);
        x.collect();
        x.mark(99);
        Due.is("5 of them, all kept: count(5)", x.count(5), 5);
        Due.is("sweep(9)", x.sweep(9), 5);
        Due.is("count(11)", x.count(11), 0);
    }

    private static void noSpanIsThere() {
        FiberHeap x = new FiberHeap();
        x.collect();
        Due.is("mark(1)", x.mark(1), 1);
        Due.is("count(5)", x.count(5), 0);
        Due.is("count(10)", x.count(10), 64);
        Due.is("sweep(1)", x.sweep(1), 0);
    }

    private static void freshBecomesZero() {
        FiberHeap x = Scenes.inARow(2, 64);
        Due.is("count(9)", x.count(9), 66);
        x.collect();
        Due.is("not when it begins: count(9)", x.count(9), 66);
        x.mark(1);
        Due.is("nor in between: count(9)", x.count(9), 66);
        x.mark(9);
        Due.is("count(9)", x.count(9), 0);
    }

    // The TRIGGER after a cycle with a heap in which just these are kept.
    private static int triggerOf(int... words) {
        FiberHeap x = Scenes.inARow(words);
        Scenes.cleanUp(x);
        return x.count(10);
    }

    private static void triggerBelowItsLeast() {
        Due.is("0 words: count(10)", triggerOf(), 64);
        Due.is("2 words: count(10)", triggerOf(2), 64);
        Due.is("126 words: count(10)", triggerOf(64, 48, 8, 4, 2), 64);
    }

    private static void triggerAtItsLeast() {
        Due.is("128 words: count(10)", triggerOf(64, 64), 64);
    }

    private static void triggerAboveItsLeast() {
        Due.is("130 words: count(10)", triggerOf(64, 64, 2), 65);
        Due.is("134 words: count(10)", triggerOf(64, 64, 4, 2), 67);
        Due.is("256 words: count(10)", triggerOf(64, 64, 64, 64), 128);
    }

    private static void triggerFallsAgain() {
        FiberHeap x = Scenes.inARow(64, 64, 64, 64);
        Scenes.cleanUp(x);
        Due.is("count(10)", x.count(10), 128);
        x.copy(0, 0, -1);
        Scenes.cleanUp(x);
        Due.is("count(10)", x.count(10), 96);
        x.copy(0, 1, -1);
        x.copy(0, 2, -1);
        Scenes.cleanUp(x);
        Due.is("count(10)", x.count(10), 64);
    }

    private static void triggerIsOfSlotsNotOfObjects() {
        Due.is("slots of 64 for 49 words, of 2 for 1: count(10)", triggerOf(49, 49, 49, 1), 97);
        Due.is("of 48, 32, 16, 8 and 4: count(10)", triggerOf(33, 33, 17, 9, 5, 3), 78);
    }

    private static void triggerIsOfTheKeptAlone() {
        FiberHeap x = Scenes.inARow(64, 64, 64);
        Scenes.settle(x);
        x.copy(0, 0, -1);
        x.collect();
        x.mark(99);
        Due.is("the third is not freed yet: count(1)", x.count(1), 192);
        Due.is("half of 128: count(10)", x.count(10), 64);
    }

    private static void triggerCountsTheNewOnes() {
        FiberHeap x = Scenes.inARow(64, 64);
        for (int f = 1; f < 6; f++) {
            x.spawn(0, -1);
        }
        Scenes.cleanUp(x);
        x.collect();
        x.make(5, 0, 1, 0);
        x.make(5, 0, 1, 0);
        Due.is("two are NEW: mark(99)", x.mark(99), 4);
        Due.is("half of 132: count(10)", x.count(10), 66);
    }

    // ---- promises 16 to 18

    private static void markOfLessThanOne() {
        FiberHeap x = Scenes.list(2, 2);
        x.collect();
        for (int n : new int[] {0, -1, Scenes.MIN}) {
            Due.is("mark(" + n + ")", x.mark(n), 0);
            Due.is("fiber(0, 3)", x.fiber(0, 3), 0);
        }
        x.mark(1);
        x.spawn(0, -1);
        x.end(0);
        for (int n : new int[] {0, -1, Scenes.MIN}) {
            Due.is("mark(" + n + ")", x.mark(n), 0);
        }
        Due.is("count(7)", x.count(7), 1);
        Due.is("count(4)", x.count(4), 1);
    }

    private static void markOfLessThanOneEndsNothing() {
        FiberHeap x = new FiberHeap();
        x.spawn(0, -1);
        x.collect();
        x.mark(1);
        x.end(1);
        Due.is("no work is left, yet nothing changes: mark(0)", x.mark(0), 0);
        Due.is("count(4)", x.count(4), 1);
    }

    private static void markAtRest() {
        FiberHeap x = Scenes.inARow(2, 64);
        Due.is("mark(1)", x.mark(1), 0);
        Due.is("mark(MAX)", x.mark(Scenes.MAX), 0);
        Due.is("count(4)", x.count(4), 0);
        Due.is("count(5)", x.count(5), 0);
        Due.is("count(6)", x.count(6), 0);
        Due.is("FRESH stays: count(9)", x.count(9), 66);
    }

    private static void markOfOne() {
        FiberHeap x = Scenes.list(2, 2);
        x.collect();
        for (int i = 1; i <= 3; i++) {
            Due.is("mark(1)", x.mark(1), 1);
            Due.is("count(7)", x.count(7), i);
        }
        Due.is("mark(1)", x.mark(1), 0);
    }

    // Pages 0, 1 and 2 have one span each, unswept; what was in the first and in the third was not kept.
    private static FiberHeap threeUnswept() {
        FiberHeap x = Scenes.inARow(2, 4, 16);
        x.copy(0, 0, -1);
        x.copy(0, 2, -1);
        x.collect();
        x.mark(99);
        return x;
    }

    private static void sweepOfLessThanOne() {
        FiberHeap x = threeUnswept();
        for (int n : new int[] {0, -1, Scenes.MIN}) {
            Due.is("sweep(" + n + ")", x.sweep(n), 0);
            Due.is("count(5)", x.count(5), 3);
            Due.is("count(11)", x.count(11), 0);
        }
    }

    private static void sweepByRisingPage() {
        FiberHeap x = threeUnswept();
        Due.is("sweep(1)", x.sweep(1), 1);
        Scenes.pages(x, 0, 4, 16);
        Due.is("sweep(1)", x.sweep(1), 1);
        Scenes.pages(x, 0, 4, 16);
        Due.is("count(5)", x.count(5), 1);
        Due.is("sweep(1)", x.sweep(1), 1);
        Scenes.pages(x, 0, 4, 0);
    }

    private static void sweepOfAsManyAsThereAre() {
        FiberHeap x = threeUnswept();
        Due.is("sweep(3)", x.sweep(3), 3);
        Due.is("count(5)", x.count(5), 0);
        x = threeUnswept();
        Due.is("one less: sweep(2)", x.sweep(2), 2);
        Due.is("count(5)", x.count(5), 1);
        x = threeUnswept();
        Due.is("one more: sweep(4)", x.sweep(4), 3);
        x = threeUnswept();
        Due.is("sweep(MAX)", x.sweep(Scenes.MAX), 3);
    }

    private static void sweepOfNone() {
        FiberHeap x = new FiberHeap();
        Due.is("no span: sweep(1)", x.sweep(1), 0);
        x.make(0, 0, 2, 0);
        x.copy(0, 0, -1);
        Due.is("none is unswept: sweep(1)", x.sweep(1), 0);
        x.collect();
        Due.is("nor while it is marking: sweep(1)", x.sweep(1), 0);
        Due.is("count(0)", x.count(0), 1);
    }

    private static void sweepCountsSpansNotPages() {
        FiberHeap x = Scenes.inARow(64, 48, 32);
        x.copy(0, 0, -1);
        x.collect();
        x.mark(99);
        Due.is("sweep(1)", x.sweep(1), 1);
        Scenes.pages(x, 0, 0, 0, 0, 48, 1, 1, 32, 1, 0);
        Due.is("sweep(9)", x.sweep(9), 2);
    }

    private static void sweepOfSixteenSpans() {
        FiberHeap x = Scenes.inARow(16, 16, 16, 16, 16, 16, 16, 16, 16, 16, 16, 16, 16, 16, 16, 16);
        Scenes.settle(x);
        x.collect();
        x.mark(99);
        Due.is("count(5)", x.count(5), 16);
        Due.is("sweep(15)", x.sweep(15), 15);
        Due.is("the last page: sweep(9)", x.sweep(9), 1);
        Due.is("count(0)", x.count(0), 16);
    }

    private static void collectWhileItIsMarking() {
        FiberHeap x = threeUnswept();
        Due.yes("at rest: collect()", x.collect());
        Due.no("collect()", x.collect());
        x.mark(1);
        Due.no("collect()", x.collect());
        Due.is("count(6)", x.count(6), 2);
        Due.is("it is still scanned: fiber(0, 3)", x.fiber(0, 3), 1);
        Due.is("one object is left: mark(9)", x.mark(9), 1);
        Due.yes("at rest again: collect()", x.collect());
        Due.is("count(6)", x.count(6), 3);
    }

    private static void cyclesAndPieces() {
        Due.test("At first it is at rest, FRESH is 0, TRIGGER is 64", CollectorBoundsTest::atFirst);
        Due.test("A cycle BEGINS: all unswept spans are swept", CollectorBoundsTest::allUnsweptSpansAreSwept);
        Due.test("A cycle BEGINS: none is unswept", CollectorBoundsTest::noneIsUnswept);
        Due.test("A cycle BEGINS: no fiber is SCANNED", CollectorBoundsTest::noFiberIsScanned);
        Due.test("A cycle BEGINS: no object LOOKED AT", CollectorBoundsTest::noObjectIsLookedAt);
        Due.test("A cycle BEGINS: the pointers in the channels are NOTED", CollectorBoundsTest::whatIsInTheChannelsIsNoted);
        Due.test("A cycle BEGINS: what has left a channel", CollectorBoundsTest::whatHasLeftAChannelIsNotNoted);
        Due.test("A cycle BEGINS: empty channels, NIL", CollectorBoundsTest::emptyChannelsAndNilGiveNothing);
        Due.test("NOTED: all cells of all frames", CollectorBoundsTest::allCellsOfAllFrames);
        Due.test("NOTED: no cell of a frame that was left", CollectorBoundsTest::noCellOfAFrameThatWasLeft);
        Due.test("NOTED: no cell of a fiber that ended", CollectorBoundsTest::noCellOfAFiberThatEnded);
        Due.test("NOTED: what a word holds before a set()", CollectorBoundsTest::whatTheWordHeldBeforeASet);
        Due.test("NOTED: what it holds after that", CollectorBoundsTest::whatTheWordHoldsAfterASet);
        Due.test("NOTED: both of a set()", CollectorBoundsTest::whatTheWordHeldBeforeAndHoldsAfter);
        Due.test("NIL is nothing that is noted: set()", CollectorBoundsTest::aSetFromNilToNil);
        Due.test("NOTED: a set() that is done", CollectorBoundsTest::aSetThatIsRefused);
        Due.test("NOTED: while it is marking", CollectorBoundsTest::aSetAtRest);
        Due.test("NOTED: in no other call", CollectorBoundsTest::getAndCopyNoteNothing);
        Due.test("NOTED: not in spawn()", CollectorBoundsTest::spawnNotesNothing);
        Due.test("NOTED: each pointer that enters a channel in send()", CollectorBoundsTest::whatEntersAChannel);
        Due.test("NOTED: not what waits to enter", CollectorBoundsTest::whatWaitsToEnterIsNotNoted);
        Due.test("NOTED: each pointer that enters a channel in take()", CollectorBoundsTest::whatWaitedAndEntersInATake);
        Due.test("NOTED: from fiber to fiber in send()", CollectorBoundsTest::whatGoesToAnotherFiberInASend);
        Due.test("NOTED: from fiber to fiber in take()", CollectorBoundsTest::whatGoesToAnotherFiberInATake);
        Due.test("NIL is nothing that is noted: send()", CollectorBoundsTest::aNilThatIsSent);
        Due.test("DUE that were noted in this marking", CollectorBoundsTest::aNotedOneStaysNoted);
        Due.test("DUE: not if noted in an earlier marking", CollectorBoundsTest::notedInAnEarlierMarkingOnly);
        Due.test("NEW: placed while it is marking, no more after it", CollectorBoundsTest::placedWhileItIsMarking);
        Due.test("NEW: not placed before it", CollectorBoundsTest::placedBeforeItBegins);
        Due.test("NEW: not placed after it", CollectorBoundsTest::placedByTheMakeWhoseWorkEndsIt);
        Due.test("DUE: not NEW, though noted", CollectorBoundsTest::aNewOneThatIsNoted);
        Due.test("DUE: what a NEW one points to", CollectorBoundsTest::whatANewOnePointsTo);
        Due.test("DUE: to which a pointer word points", CollectorBoundsTest::dueThroughEveryPointerWord);
        Due.test("DUE: an int word is none", CollectorBoundsTest::anIntWordIsNoPointer);
        Due.test("DUE: a ring", CollectorBoundsTest::dueThroughARing);
        Due.test("DUE: one that points to itself", CollectorBoundsTest::dueThroughItself);
        Due.test("DUE: the longest chain", CollectorBoundsTest::dueThroughTheLongestChain);
        Due.test("DUE: set into one that was looked at", CollectorBoundsTest::setIntoOneThatWasLookedAt);
        Due.test("PIECE: the lowest-numbered such fiber", CollectorBoundsTest::theLowestStackFirst);
        Due.test("PIECE: one that begins to live", CollectorBoundsTest::aLowerFiberThatBeginsToLive);
        Due.test("PIECE: otherwise one DUE object", CollectorBoundsTest::aStackBeforeAnyObject);
        Due.test("PIECE: some living fiber", CollectorBoundsTest::aFiberThatEndedIsNotScanned);
        Due.test("PIECE: not scanned in this marking", CollectorBoundsTest::noStackIsScannedTwice);
    }

    private static void workAndPromises() {
        Due.test("WORK n: one less than there is", CollectorBoundsTest::workOfOnePieceLessThanThereIs);
        Due.test("WORK n: just as much as there is", CollectorBoundsTest::workOfJustAsMuchAsThereIs);
        Due.test("WORK n: more than there is", CollectorBoundsTest::workOfMoreThanThereIs);
        Due.test("WORK n: none is left", CollectorBoundsTest::workWhenNoneIsLeft);
        Due.test("WORK n: none is left in a make()", CollectorBoundsTest::makeWhenNoWorkIsLeft);
        Due.test("ENDS: every span becomes unswept", CollectorBoundsTest::everySpanBecomesUnswept);
        Due.test("ENDS: no span is there", CollectorBoundsTest::noSpanIsThere);
        Due.test("ENDS: FRESH becomes 0", CollectorBoundsTest::freshBecomesZero);
        Due.test("TRIGGER: 64 if that is less than 64", CollectorBoundsTest::triggerBelowItsLeast);
        Due.test("TRIGGER: 64 itself", CollectorBoundsTest::triggerAtItsLeast);
        Due.test("TRIGGER: half the number of words", CollectorBoundsTest::triggerAboveItsLeast);
        Due.test("TRIGGER: falls again", CollectorBoundsTest::triggerFallsAgain);
        Due.test("TRIGGER: words of the slots", CollectorBoundsTest::triggerIsOfSlotsNotOfObjects);
        Due.test("TRIGGER: of all objects that are kept", CollectorBoundsTest::triggerIsOfTheKeptAlone);
        Due.test("TRIGGER: the NEW ones are kept", CollectorBoundsTest::triggerCountsTheNewOnes);
        Due.test("16: 0, and nothing changes, when n is less than 1", CollectorBoundsTest::markOfLessThanOne);
        Due.test("16: nothing changes, also when no work is left", CollectorBoundsTest::markOfLessThanOneEndsNothing);
        Due.test("16: 0, and nothing changes, when it is at rest", CollectorBoundsTest::markAtRest);
        Due.test("16: the least n", CollectorBoundsTest::markOfOne);
        Due.test("17: 0 when n is less than 1", CollectorBoundsTest::sweepOfLessThanOne);
        Due.test("17: by rising page", CollectorBoundsTest::sweepByRisingPage);
        Due.test("17: at most n of them", CollectorBoundsTest::sweepOfAsManyAsThereAre);
        Due.test("17: none is there", CollectorBoundsTest::sweepOfNone);
        Due.test("17: n spans, not pages", CollectorBoundsTest::sweepCountsSpansNotPages);
        Due.test("17: all sixteen pages", CollectorBoundsTest::sweepOfSixteenSpans);
        Due.test("18: Refused: it is marking", CollectorBoundsTest::collectWhileItIsMarking);
    }

    public static void main(String[] args) {
        cyclesAndPieces();
        workAndPromises();
        Due.close();
    }
}
