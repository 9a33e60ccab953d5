/** The boundary cases of FIBERS in the document's terms, of promises 1 to 8 and of 19; refused calls are in RefusalsTest. */
public final class FiberBoundsTest {
    private static final int NIL = FiberHeap.NIL;
    private static final int NONE = FiberHeap.NONE;

    private static void calls(FiberHeap x, int f, int times) {
        for (int i = 0; i < times; i++) {
            Due.yes("call(" + f + ")", x.call(f));
        }
    }

    private static void leaves(FiberHeap x, int f, int times) {
        for (int i = 0; i < times; i++) {
            Due.yes("leave(" + f + ")", x.leave(f));
        }
    }

    // ---- FIBERS

    private static void sixFibersAreAll() {
        FiberHeap x = new FiberHeap();
        for (int f = 1; f <= 5; f++) {
            Due.is("spawn(0, -1)", x.spawn(0, -1), f);
        }
        Due.is("a seventh: spawn(0, -1)", x.spawn(0, -1), NONE);
        for (int f = 0; f <= 5; f++) {
            Due.is("fiber(" + f + ", 0)", x.fiber(f, 0), 1);
        }
        Due.yes("the last works as the first: call(5)", x.call(5));
        Due.is("make(5, 3, 2, 0)", x.make(5, 3, 2, 0), 0);
        Due.is("fiber(5, 7)", x.fiber(5, 7), 0);
    }

    private static void fiberZeroLivesFromTheBeginning() {
        FiberHeap x = new FiberHeap();
        Due.is("fiber(0, 0)", x.fiber(0, 0), 1);
        Due.yes("it is READY: call(0)", x.call(0));
        for (int f = 1; f <= 5; f++) {
            Due.is("no other: fiber(" + f + ", 0)", x.fiber(f, 0), 0);
            Due.no("call(" + f + ")", x.call(f));
        }
    }

    private static void sixteenFramesAreAll() {
        FiberHeap x = new FiberHeap();
        calls(x, 0, 15);
        Due.is("fiber(0, 1)", x.fiber(0, 1), 16);
        Due.no("a 17th: call(0)", x.call(0));
        Due.is("fiber(0, 1)", x.fiber(0, 1), 16);
        Due.is("no room for it is made: fiber(0, 2)", x.fiber(0, 2), 16);
        Due.is("nor anything copied: count(8)", x.count(8), 2 + 4 + 8);
        leaves(x, 0, 1);
        Due.yes("16 again: call(0)", x.call(0));
    }

    private static void oneFrameIsLeft() {
        FiberHeap x = new FiberHeap();
        calls(x, 0, 1);
        leaves(x, 0, 1);
        Due.no("the oldest one: leave(0)", x.leave(0));
        Due.is("fiber(0, 1)", x.fiber(0, 1), 1);
    }

    private static void sixteenFramesOfEveryFiber() {
        FiberHeap x = Scenes.sixFibers();
        for (int f = 0; f < 6; f++) {
            calls(x, f, 15);
            Due.no("call(" + f + ")", x.call(f));
            Due.is("each its own cells: fiber(" + f + ", 4)", x.fiber(f, 4), 2 * f);
        }
        Due.is("count(8)", x.count(8), 6 * 14);
        leaves(x, 3, 15);
        Due.is("others keep theirs: fiber(2, 1)", x.fiber(2, 1), 16);
        Due.is("fiber(3, 1)", x.fiber(3, 1), 1);
    }

    private static void fourCellsOfAFrame() {
        FiberHeap x = new FiberHeap();
        for (int k = 0; k < 4; k++) {
            Due.is("make(0, " + k + ", 2, 0)", x.make(0, k, 2, 0), 2 * k);
        }
        for (int k = 0; k < 4; k++) {
            Due.is("fiber(0, " + (4 + k) + ")", x.fiber(0, 4 + k), 2 * k);
        }
        Due.no("no cell 4, REF is NONE: copy(0, 4, 0)", x.copy(0, 4, 0));
        Due.no("no cell 5: copy(0, 5, 0)", x.copy(0, 5, 0));
        Due.no("no cell -1 to write: copy(0, -1, 0)", x.copy(0, -1, 0));
    }

    private static void everyFrameHasItsOwnCells() {
        FiberHeap x = new FiberHeap();
        for (int i = 0; i < 16; i++) {
            x.make(0, 1 + i % 3, 2, 0);
            if (i < 15) {
                x.call(0);
            }
        }
        for (int i = 15; i >= 0; i--) {
            Due.is("frame " + i + ": fiber(0, " + (5 + i % 3) + ")", x.fiber(0, 5 + i % 3), 2 * i);
            x.leave(0);
        }
    }

    private static void aRefOfTheSixteenthFrameToTheFirst() {
        FiberHeap x = new FiberHeap();
        x.make(0, 1, 2, 0);
        x.aim(0, 3);
        calls(x, 0, 15);
        Due.is("fiber(0, 8)", x.fiber(0, 8), 3);
        Due.yes("cell 3 of frame 0: copy(0, 4, 1)", x.copy(0, 4, 1));
        Due.is("not of frame 15: fiber(0, 7)", x.fiber(0, 7), NIL);
        leaves(x, 0, 14);
        Due.is("not of frame 1: fiber(0, 7)", x.fiber(0, 7), NIL);
        leaves(x, 0, 1);
        Due.is("fiber(0, 7)", x.fiber(0, 7), 0);
    }

    private static void aRefOfTheSixteenthFrameToItself() {
        FiberHeap x = new FiberHeap();
        x.make(0, 1, 2, 0);
        calls(x, 0, 15);
        Due.yes("aim(0, 3)", x.aim(0, 3));
        Due.is("4 * 15 + 3: fiber(0, 8)", x.fiber(0, 8), 63);
        Due.yes("copy(0, 4, 1)", x.copy(0, 4, 1));
        Due.is("fiber(0, 7)", x.fiber(0, 7), 0);
        leaves(x, 0, 1);
        Due.is("the older frame's REF is still NONE: fiber(0, 8)", x.fiber(0, 8), NONE);
        Due.no("copy(0, 4, 1)", x.copy(0, 4, 1));
        Due.yes("call(0)", x.call(0));
        Due.is("a new frame's is that of the frame before: fiber(0, 8)", x.fiber(0, 8), NONE);
    }

    private static void roomForTwoFramesAtFirst() {
        FiberHeap x = new FiberHeap();
        Due.is("fiber(0, 2)", x.fiber(0, 2), 2);
        calls(x, 0, 1);
        Due.is("two frames: fiber(0, 2)", x.fiber(0, 2), 2);
        Due.is("count(8)", x.count(8), 0);
        calls(x, 0, 1);
        Due.is("three: fiber(0, 2)", x.fiber(0, 2), 4);
        Due.is("the two that were there: count(8)", x.count(8), 2);
    }

    private static void theRoomIsDoubledOnlyBeyondIt() {
        FiberHeap x = new FiberHeap();
        int[] rooms = {2, 2, 4, 4, 8, 8, 8, 8, 16, 16, 16, 16, 16, 16, 16, 16};
        int[] copied = {0, 0, 2, 2, 6, 6, 6, 6, 14, 14, 14, 14, 14, 14, 14, 14};
        for (int frames = 1; frames <= 16; frames++) {
            Due.is(frames + " frames: fiber(0, 2)", x.fiber(0, 2), rooms[frames - 1]);
            Due.is(frames + " frames: count(8)", x.count(8), copied[frames - 1]);
            x.call(0);
        }
    }

    private static void leavingAndCallingWithinTheRoomCopiesNothing() {
        FiberHeap x = new FiberHeap();
        calls(x, 0, 4);
        Due.is("5 frames: count(8)", x.count(8), 6);
        leaves(x, 0, 4);
        Due.is("the room stays: fiber(0, 2)", x.fiber(0, 2), 8);
        calls(x, 0, 7);
        Due.is("8 frames: fiber(0, 2)", x.fiber(0, 2), 8);
        Due.is("count(8)", x.count(8), 6);
        calls(x, 0, 1);
        Due.is("9 frames: fiber(0, 2)", x.fiber(0, 2), 16);
        Due.is("count(8)", x.count(8), 14);
    }

    // The room and the copies after a scan of a stack that had most frames and has so many now.
    private static void scanned(int most, int frames, int room, int copies) {
        FiberHeap x = new FiberHeap();
        for (int i = 1; i < most; i++) {
            x.call(0);
        }
        for (int i = most; i > frames; i--) {
            x.leave(0);
        }
        int before = x.count(8);
        x.collect();
        Due.is("not before it is scanned: count(8)", x.count(8), before);
        x.mark(1);
        Due.is(frames + " frames, once " + most + ": fiber(0, 2)", x.fiber(0, 2), room);
        Due.is(frames + " frames, once " + most + ": count(8)", x.count(8) - before, copies);
        Due.is("the frames stay: fiber(0, 1)", x.fiber(0, 1), frames);
    }

    private static void aQuarterOfTheRoomIsHalved() {
        scanned(9, 4, 8, 4);
        scanned(9, 3, 8, 3);
        scanned(9, 1, 8, 1);
        scanned(5, 2, 4, 2);
        scanned(5, 1, 4, 1);
        scanned(3, 1, 2, 1);
    }

    private static void moreThanAQuarterIsNot() {
        scanned(9, 5, 16, 0);
        scanned(16, 16, 16, 0);
        scanned(5, 3, 8, 0);
        scanned(3, 2, 4, 0);
    }

    private static void aRoomOfTwoIsNot() {
        scanned(2, 1, 2, 0);
        scanned(1, 1, 2, 0);
    }

    private static void theRoomIsHalvedOnceAScan() {
        FiberHeap x = new FiberHeap();
        calls(x, 0, 15);
        leaves(x, 0, 15);
        int[] rooms = {8, 4, 2, 2};
        int[] copied = {15, 16, 17, 17};
        for (int i = 0; i < 4; i++) {
            x.collect();
            x.mark(1);
            Due.is("scan " + i + ": fiber(0, 2)", x.fiber(0, 2), rooms[i]);
            Due.is("scan " + i + ": count(8)", x.count(8), copied[i]);
        }
    }

    private static void cellsAndRefsStayWhenTheRoomChanges() {
        FiberHeap x = new FiberHeap();
        for (int k = 0; k < 4; k++) {
            x.make(0, k, 2, 0);
        }
        x.aim(0, 2);
        calls(x, 0, 1);
        x.aim(0, 1);
        x.copy(0, 3, 2);
        calls(x, 0, 7);
        leaves(x, 0, 7);
        x.collect();
        x.mark(1);
        Due.is("16, then 8: fiber(0, 2)", x.fiber(0, 2), 8);
        int[] newest = {0, 2, 4, 4, 5};
        for (int what = 4; what <= 8; what++) {
            Due.is("frame 1: fiber(0, " + what + ")", x.fiber(0, what), newest[what - 4]);
        }
        leaves(x, 0, 1);
        int[] oldest = {0, 2, 4, 6, 2};
        for (int what = 4; what <= 8; what++) {
            Due.is("frame 0: fiber(0, " + what + ")", x.fiber(0, what), oldest[what - 4]);
        }
    }

    private static void aFiberThatWaitsIsScannedToo() {
        FiberHeap x = new FiberHeap();
        calls(x, 0, 8);
        leaves(x, 0, 8);
        x.make(0, 0, 2, 0);
        x.send(0, 0, 0);
        x.collect();
        Due.is("its stack and its object: mark(9)", x.mark(9), 2);
        Due.is("fiber(0, 2)", x.fiber(0, 2), 8);
    }

    // ---- promise 1

    private static void everyPartOfANewObject() {
        FiberHeap x = new FiberHeap();
        int[] due = {1, 1, 2, 0, NIL, NIL, NIL, NIL, NONE, NONE};
        for (int what = 0; what < 10; what++) {
            Due.is("fiber(0, " + what + ")", x.fiber(0, what), due[what]);
        }
        int[] counts = {0, 0, 16, 16, 0, 0, 0, 0, 0, 0, 64, 0};
        for (int what = 0; what < 12; what++) {
            Due.is("count(" + what + ")", x.count(what), counts[what]);
        }
        Scenes.pages(x, 0, 0, 0, 0, 0, 0, 0, 0, 0, 0, 0, 0, 0, 0, 0, 0);
    }

    private static void theChannelsOfANewObjectAreEmpty() {
        FiberHeap x = new FiberHeap();
        for (int c = 0; c < 4; c++) {
            Due.is("take(0, 0, " + c + ", " + c + ")", x.take(0, 0, c, c), FiberHeap.WAITS);
            x.wake(0);
        }
        x.collect();
        Due.is("nothing in them is noted: mark(9)", x.mark(9), 1);
    }

    // ---- promises 2 to 8: what is just not refused

    private static void spawnOfTheLast() {
        FiberHeap x = new FiberHeap();
        for (int i = 0; i < 4; i++) {
            x.spawn(0, -1);
        }
        x.make(0, 3, 2, 0);
        Due.is("five live: spawn(0, 3)", x.spawn(0, 3), 5);
        Due.is("fiber(5, 4)", x.fiber(5, 4), 0);
        x.end(0);
        Due.is("0 is the lowest: spawn(5, 0)", x.spawn(5, 0), 0);
        Due.is("fiber(0, 4)", x.fiber(0, 4), 0);
    }

    private static void spawnFromEveryCell() {
        FiberHeap x = new FiberHeap();
        for (int k = 0; k < 4; k++) {
            x.make(0, k, 2, 0);
        }
        x.aim(0, 1);
        for (int k = 0; k <= 4; k++) {
            Due.is("spawn(0, " + k + ")", x.spawn(0, k), k + 1);
            Due.is("fiber(" + (k + 1) + ", 4)", x.fiber(k + 1, 4), k == 4 ? 2 : 2 * k);
        }
        x.end(3);
        Due.is("k is -1: spawn(0, -1)", x.spawn(0, -1), 3);
        Due.is("fiber(3, 4)", x.fiber(3, 4), NIL);
    }

    private static void whatASpawnedFiberBeginsWith() {
        FiberHeap x = Scenes.sixFibers();
        x.send(0, 0, 3);
        x.take(1, 3, 3, 3);
        x.copy(1, 1, 0);
        x.copy(1, 2, 0);
        x.aim(1, 1);
        calls(x, 1, 9);
        x.collect();
        x.mark(2);
        Due.is("it is scanned: fiber(1, 3)", x.fiber(1, 3), 1);
        x.end(1);
        Due.is("spawn(5, 0)", x.spawn(5, 0), 1);
        int[] due = {1, 1, 2, 0, 10, NIL, NIL, NIL, NONE, NONE};
        for (int what = 0; what < 10; what++) {
            Due.is("fiber(1, " + what + ")", x.fiber(1, what), due[what]);
        }
        Due.no("REF is NONE: copy(1, 4, 0)", x.copy(1, 4, 0));
    }

    private static void endOfTheLastButOne() {
        FiberHeap x = new FiberHeap();
        x.spawn(0, -1);
        Due.yes("two live: end(0)", x.end(0));
        Due.no("one lives: end(1)", x.end(1));
        Due.is("fiber(1, 0)", x.fiber(1, 0), 1);
        Due.is("spawn(1, -1)", x.spawn(1, -1), 0);
        Due.yes("two live: end(1)", x.end(1));
        Due.no("one lives: end(0)", x.end(0));
    }

    private static void endOfTheOnlyReadyOne() {
        FiberHeap x = new FiberHeap();
        x.spawn(0, -1);
        x.take(1, 0, 0, 0);
        Due.yes("the other waits, but lives: end(0)", x.end(0));
        Due.no("no other lives: end(1)", x.end(1));
        Due.is("fiber(1, 0)", x.fiber(1, 0), 3);
    }

    private static void endOfOneThatWaitsToSend() {
        FiberHeap x = Scenes.sixFibers();
        x.send(1, 0, 0);
        x.send(2, 0, 0);
        Due.yes("end(1)", x.end(1));
        Due.is("fiber(1, 0)", x.fiber(1, 0), 0);
        Due.is("take(0, 1, 0, 0)", x.take(0, 1, 0, 0), 0);
        Due.is("the next one's: fiber(0, 5)", x.fiber(0, 5), 4);
        Due.is("none is left: take(0, 1, 0, 0)", x.take(0, 1, 0, 0), FiberHeap.WAITS);
    }

    private static void endOfOneThatWaitsToTake() {
        FiberHeap x = Scenes.sixFibers();
        x.take(1, 1, 1, 2);
        Due.yes("end(1)", x.end(1));
        Due.is("into the channel: send(0, 0, 1)", x.send(0, 0, 1), 1);
        Due.is("nobody takes: send(2, 0, 1)", x.send(2, 0, 1), FiberHeap.WAITS);
        Due.is("spawn(0, -1)", x.spawn(0, -1), 1);
        Due.is("it waits no more: send(0, 0, 2)", x.send(0, 0, 2), 2);
        Due.is("fiber(1, 5)", x.fiber(1, 5), NIL);
        Due.is("fiber(1, 0)", x.fiber(1, 0), 1);
    }

    private static void wakeOfOneThatWaitsToSend() {
        FiberHeap x = Scenes.sixFibers();
        x.send(1, 0, 0);
        Due.yes("wake(1)", x.wake(1));
        Due.is("it is READY: fiber(1, 0)", x.fiber(1, 0), 1);
        Due.no("once: wake(1)", x.wake(1));
        Due.is("nothing was sent: take(0, 1, 0, 0)", x.take(0, 1, 0, 0), FiberHeap.WAITS);
    }

    private static void wakeOfOneThatWaitsToTake() {
        FiberHeap x = Scenes.sixFibers();
        x.take(1, 0, 2, 3);
        Due.yes("wake(1)", x.wake(1));
        Due.is("it is READY: fiber(1, 0)", x.fiber(1, 0), 1);
        Due.no("once: wake(1)", x.wake(1));
        Due.is("nothing was taken: fiber(1, 4)", x.fiber(1, 4), 2);
        Due.is("fiber(1, 9)", x.fiber(1, 9), NONE);
        x.send(0, 0, 2);
        x.send(0, 0, 3);
        Due.is("nor later, at either: fiber(1, 4)", x.fiber(1, 4), 2);
    }

    private static void aCallsFrame() {
        FiberHeap x = new FiberHeap();
        x.make(0, 0, 2, 0);
        x.make(0, 3, 2, 0);
        calls(x, 0, 1);
        int[] due = {0, NIL, NIL, 2, NONE};
        for (int what = 4; what <= 8; what++) {
            Due.is("fiber(0, " + what + ")", x.fiber(0, what), due[what - 4]);
        }
        x.aim(0, 3);
        calls(x, 0, 1);
        Due.is("frame 1, cell 3: fiber(0, 8)", x.fiber(0, 8), 7);
    }

    private static void leaveTakesCellZeroAlong() {
        FiberHeap x = new FiberHeap();
        for (int k = 0; k < 4; k++) {
            x.make(0, k, 2, 0);
        }
        calls(x, 0, 1);
        for (int k = 0; k < 4; k++) {
            x.copy(0, k, -1);
        }
        leaves(x, 0, 1);
        int[] due = {NIL, 2, 4, 6};
        for (int k = 0; k < 4; k++) {
            Due.is("NIL too, cell 0 alone: fiber(0, " + (4 + k) + ")", x.fiber(0, 4 + k), due[k]);
        }
    }

    private static void leaveWithARefToCellZeroOfTheFrameBefore() {
        FiberHeap x = new FiberHeap();
        x.make(0, 0, 2, 0);
        x.make(0, 1, 2, 0);
        x.aim(0, 0);
        calls(x, 0, 1);
        x.copy(0, 4, 1);
        leaves(x, 0, 1);
        Due.is("what the REF wrote is written over: fiber(0, 4)", x.fiber(0, 4), 0);
    }

    private static void aimAtTheFirstAndTheLastCell() {
        FiberHeap x = new FiberHeap();
        Due.yes("aim(0, 3)", x.aim(0, 3));
        Due.is("fiber(0, 8)", x.fiber(0, 8), 3);
        Due.yes("aim(0, 0)", x.aim(0, 0));
        Due.is("fiber(0, 8)", x.fiber(0, 8), 0);
        Due.no("aim(0, 4)", x.aim(0, 4));
        Due.no("aim(0, -1)", x.aim(0, -1));
        Due.is("fiber(0, 8)", x.fiber(0, 8), 0);
    }

    private static void aimFromAnOlderFrameToTheNewest() {
        FiberHeap x = new FiberHeap();
        x.aim(0, 2);
        calls(x, 0, 1);
        Due.no("4 stands for a cell, but is no aim: aim(0, 4)", x.aim(0, 4));
        Due.is("fiber(0, 8)", x.fiber(0, 8), 2);
        Due.yes("aim(0, 2)", x.aim(0, 2));
        Due.is("fiber(0, 8)", x.fiber(0, 8), 6);
    }

    private static void copyBetweenAllCells() {
        for (int to = 0; to <= 4; to++) {
            for (int from = -1; from <= 4; from++) {
                FiberHeap x = new FiberHeap();
                for (int k = 0; k < 4; k++) {
                    x.make(0, k, 2, 0);
                }
                x.aim(0, 1);
                x.call(0);
                x.copy(0, 1, 0);
                // Now the newest frame has 0, 0, 4, 6, and cell 4 (cell 1 of the frame before) holds 2.
                int[] held = {0, 0, 4, 6, 2};
                Due.yes("copy(0, " + to + ", " + from + ")", x.copy(0, to, from));
                held[to] = from == -1 ? NIL : held[from];
                for (int k = 0; k < 4; k++) {
                    Due.is("copy(0, " + to + ", " + from + "): fiber(0, " + (4 + k) + ")", x.fiber(0, 4 + k), held[k]);
                }
                x.leave(0);
                Due.is("copy(0, " + to + ", " + from + "): the frame before: fiber(0, 5)", x.fiber(0, 5), held[4]);
            }
        }
    }

    // ---- promise 19

    private static void questionsOutsideTheirBounds() {
        FiberHeap x = Scenes.sixFibers();
        x.end(4);
        for (int what = 0; what <= 9; what++) {
            for (int f : new int[] {-1, 6, 7, Scenes.MIN, Scenes.MAX}) {
                Due.is("no such fiber: fiber(" + f + ", " + what + ")", x.fiber(f, what), NONE);
            }
        }
        for (int what : new int[] {-1, -2, 10, 11, 64, Scenes.MIN, Scenes.MAX}) {
            for (int f = 0; f < 6; f++) {
                Due.is("no such question: fiber(" + f + ", " + what + ")", x.fiber(f, what), NONE);
            }
        }
    }

    private static void questionsAboutOneThatDoesNotLive() {
        FiberHeap x = Scenes.sixFibers();
        x.aim(4, 1);
        x.send(0, 0, 1);
        x.take(4, 1, 1, 1);
        x.collect();
        x.mark(5);
        x.end(4);
        Due.is("fiber(4, 0)", x.fiber(4, 0), 0);
        for (int what = 1; what <= 9; what++) {
            Due.is("fiber(4, " + what + ")", x.fiber(4, what), NONE);
        }
    }

    private static void scannedIsToldOnlyWhileItIsMarking() {
        FiberHeap x = new FiberHeap();
        x.make(0, 0, 2, 0);
        Due.is("at rest: fiber(0, 3)", x.fiber(0, 3), 0);
        x.collect();
        Due.is("marking, not scanned: fiber(0, 3)", x.fiber(0, 3), 0);
        x.mark(1);
        Due.is("marking, scanned: fiber(0, 3)", x.fiber(0, 3), 1);
        x.mark(1);
        Due.is("at rest again: fiber(0, 3)", x.fiber(0, 3), 0);
        x.collect();
        Due.is("in the next marking: fiber(0, 3)", x.fiber(0, 3), 0);
    }

    private static void theChannelOfTheLatestPointer() {
        FiberHeap x = Scenes.sixFibers();
        Due.is("took none: fiber(1, 9)", x.fiber(1, 9), NONE);
        x.take(1, 1, 3, 3);
        Due.is("it only waits: fiber(1, 9)", x.fiber(1, 9), NONE);
        x.send(0, 0, 3);
        Due.is("got while it waited: fiber(1, 9)", x.fiber(1, 9), 3);
        x.send(2, 0, 0);
        x.take(1, 1, 0, 3);
        Due.is("channel 0 is one: fiber(1, 9)", x.fiber(1, 9), 0);
        x.take(1, 1, 2, 2);
        x.wake(1);
        Due.is("nothing was taken since: fiber(1, 9)", x.fiber(1, 9), 0);
        x.send(1, 1, 0);
        x.wake(1);
        x.send(1, 1, 2);
        Due.is("nor by sending: fiber(1, 9)", x.fiber(1, 9), 0);
        x.send(0, 1, 1);
        x.take(1, 1, 1, 1);
        Due.is("NIL is a pointer too: fiber(1, 9)", x.fiber(1, 9), 1);
        x.end(1);
        x.spawn(0, -1);
        Due.is("since it began to live: fiber(1, 9)", x.fiber(1, 9), NONE);
    }

    private static void whereTheRefRefers() {
        FiberHeap x = new FiberHeap();
        Due.is("to NONE: fiber(0, 8)", x.fiber(0, 8), NONE);
        for (int frame = 0; frame < 16; frame++) {
            for (int k = 0; k < 4; k++) {
                x.aim(0, k);
                Due.is("frame " + frame + ", cell " + k + ": fiber(0, 8)", x.fiber(0, 8), 4 * frame + k);
            }
            x.call(0);
            Due.is("as the frame before: fiber(0, 8)", x.fiber(0, 8), 4 * frame + 3);
        }
        x.spawn(0, -1);
        Due.is("to NONE: fiber(1, 8)", x.fiber(1, 8), NONE);
    }

    private static void the512thCall() {
        FiberHeap x = new FiberHeap();
        for (int i = 0; i < 255; i++) {
            Due.yes("call(0)", x.call(0));
            Due.yes("leave(0)", x.leave(0));
        }
        Due.is("call 511: make(0, 0, 2, 0)", x.make(0, 0, 2, 0), 0);
        Due.is("call 512: fiber(0, 4)", x.fiber(0, 4), 0);
        FiberHeap y = new FiberHeap();
        y.spawn(0, -1);
        for (int i = 0; i < 254; i++) {
            Due.is("take(0, 0, 1, 2)", y.take(0, 0, 1, 2), FiberHeap.WAITS);
            Due.yes("wake(0)", y.wake(0));
        }
        Due.is("take(0, 0, 1, 2)", y.take(0, 0, 1, 2), FiberHeap.WAITS);
        Due.is("send(1, 0, 2)", y.send(1, 0, 2), 2);
        Due.is("call 512: fiber(0, 9)", y.fiber(0, 9), 2);
    }

    private static void terms() {
        Due.test("An object is used for at most 512 calls", FiberBoundsTest::the512thCall);
        Due.test("FIBERS 0 .. 5", FiberBoundsTest::sixFibersAreAll);
        Due.test("Fiber 0 LIVES from the beginning", FiberBoundsTest::fiberZeroLivesFromTheBeginning);
        Due.test("A stack of 1 to 16 FRAMES: 16", FiberBoundsTest::sixteenFramesAreAll);
        Due.test("A stack of 1 to 16 FRAMES: 1", FiberBoundsTest::oneFrameIsLeft);
        Due.test("A stack of 1 to 16 FRAMES: of each fiber", FiberBoundsTest::sixteenFramesOfEveryFiber);
        Due.test("A frame has four CELLS 0 .. 3", FiberBoundsTest::fourCellsOfAFrame);
        Due.test("A frame has CELLS: each frame its own", FiberBoundsTest::everyFrameHasItsOwnCells);
        Due.test("A REF refers to a cell of an older frame", FiberBoundsTest::aRefOfTheSixteenthFrameToTheFirst);
        Due.test("A REF refers to a cell of this frame", FiberBoundsTest::aRefOfTheSixteenthFrameToItself);
        Due.test("A stack has ROOM for 2 frames at first", FiberBoundsTest::roomForTwoFramesAtFirst);
        Due.test("When a frame is to be added beyond it, the room is doubled", FiberBoundsTest::theRoomIsDoubledOnlyBeyondIt);
        Due.test("Within the room nothing is copied", FiberBoundsTest::leavingAndCallingWithinTheRoomCopiesNothing);
        Due.test("Frames are at most a quarter of the room", FiberBoundsTest::aQuarterOfTheRoomIsHalved);
        Due.test("Frames are more than a quarter of the room", FiberBoundsTest::moreThanAQuarterIsNot);
        Due.test("Its room is more than 2", FiberBoundsTest::aRoomOfTwoIsNot);
        Due.test("The room is halved after that, once", FiberBoundsTest::theRoomIsHalvedOnceAScan);
        Due.test("Cells and REFs stay what they are", FiberBoundsTest::cellsAndRefsStayWhenTheRoomChanges);
        Due.test("The stack of one that waits is scanned too", FiberBoundsTest::aFiberThatWaitsIsScannedToo);
    }

    private static void promises() {
        Due.test("1: a new object", FiberBoundsTest::everyPartOfANewObject);
        Due.test("1: the channels are empty", FiberBoundsTest::theChannelsOfANewObjectAreEmpty);
        Due.test("2: the lowest-numbered fiber that does not live", FiberBoundsTest::spawnOfTheLast);
        Due.test("2: what cell k of fiber f holds (NIL if k is -1)", FiberBoundsTest::spawnFromEveryCell);
        Due.test("2: READY, room 2, not scanned, with one frame", FiberBoundsTest::whatASpawnedFiberBeginsWith);
        Due.test("3: no other fiber lives", FiberBoundsTest::endOfTheLastButOne);
        Due.test("3: no other fiber lives: one that waits lives", FiberBoundsTest::endOfTheOnlyReadyOne);
        Due.test("3: also if it waits: to send", FiberBoundsTest::endOfOneThatWaitsToSend);
        Due.test("3: also if it waits: to take", FiberBoundsTest::endOfOneThatWaitsToTake);
        Due.test("4: nothing was sent", FiberBoundsTest::wakeOfOneThatWaitsToSend);
        Due.test("4: nothing was taken", FiberBoundsTest::wakeOfOneThatWaitsToTake);
        Due.test("5: the frame that is added", FiberBoundsTest::aCallsFrame);
        Due.test("6: cell 0 becomes what cell 0 of the one taken away was", FiberBoundsTest::leaveTakesCellZeroAlong);
        Due.test("6: cell 0, also if a REF wrote it", FiberBoundsTest::leaveWithARefToCellZeroOfTheFrameBefore);
        Due.test("7: k is not 0 .. 3", FiberBoundsTest::aimAtTheFirstAndTheLastCell);
        Due.test("7: 4 is not 0 .. 3, also with a REF", FiberBoundsTest::aimFromAnOlderFrameToTheNewest);
        Due.test("8: every cell to every cell, NIL if from is -1", FiberBoundsTest::copyBetweenAllCells);
        Due.test("19: NONE when f is not 0 .. 5 or what is not 0 .. 9", FiberBoundsTest::questionsOutsideTheirBounds);
        Due.test("19: the others are NONE when it does not live", FiberBoundsTest::questionsAboutOneThatDoesNotLive);
        Due.test("19: 1 when the collector is marking and it is scanned", FiberBoundsTest::scannedIsToldOnlyWhileItIsMarking);
        Due.test("19: where the REF refers to, NONE if to NONE", FiberBoundsTest::whereTheRefRefers);
        Due.test("19: NONE if it took none", FiberBoundsTest::theChannelOfTheLatestPointer);
    }

    public static void main(String[] args) {
        terms();
        promises();
        Due.close();
    }
}
