/** The boundary cases of CHANNELS in the document's terms, and of promises 14 and 15; refused calls are in RefusalsTest. */
public final class ChannelBoundsTest {
    private static final int NIL = FiberHeap.NIL;
    private static final int WAITS = FiberHeap.WAITS;

    // ---- CHANNELS

    private static void aChannelHoldsAsManyAsItsNumber() {
        for (int c = 0; c < 4; c++) {
            FiberHeap x = Scenes.sixFibers();
            for (int i = 0; i < c; i++) {
                Due.is("it holds " + i + ": send(0, 0, " + c + ")", x.send(0, 0, c), c);
            }
            Due.is("it holds " + c + ": send(0, 0, " + c + ")", x.send(0, 0, c), WAITS);
            Due.is("fiber(0, 0)", x.fiber(0, 0), 2);
        }
    }

    private static void aChannelHoldsNilToo() {
        for (int c = 1; c < 4; c++) {
            FiberHeap x = Scenes.sixFibers();
            for (int i = 0; i < c; i++) {
                Due.is("NIL: send(0, 1, " + c + ")", x.send(0, 1, c), c);
            }
            Due.is("full of NIL: send(0, 0, " + c + ")", x.send(0, 0, c), WAITS);
            for (int i = 0; i < c; i++) {
                Due.is("take(1, 0, " + c + ", " + c + ")", x.take(1, 0, c, c), c);
                Due.is("fiber(1, 4)", x.fiber(1, 4), NIL);
            }
            Due.is("take(1, 0, " + c + ", " + c + ")", x.take(1, 0, c, c), c);
            Due.is("fiber(1, 4)", x.fiber(1, 4), 0);
        }
    }

    private static void pointersLeaveInTheirOrderManyTimesAround() {
        for (int c = 1; c < 4; c++) {
            FiberHeap x = Scenes.sixFibers();
            int sent = 0;
            int taken = 0;
            for (int held = 0; held < c - 1; held++) {
                x.send(sent++ % 5, 0, c);
            }
            for (int i = 0; i < 40; i++) {
                Due.is("send(" + sent % 5 + ", 0, " + c + ")", x.send(sent++ % 5, 0, c), c);
                Due.is("take(5, 1, " + c + ", " + c + ")", x.take(5, 1, c, c), c);
                Due.is("pointer " + taken + ": fiber(5, 5)", x.fiber(5, 5), 2 * (taken++ % 5));
            }
        }
    }

    private static void aFullChannelManyTimesAround() {
        for (int c = 1; c < 4; c++) {
            FiberHeap x = Scenes.sixFibers();
            for (int i = 0; i < c; i++) {
                x.send(i % 5, 0, c);
            }
            for (int i = 0; i < 40; i++) {
                int sender = (c + i) % 5;
                Due.is("send(" + sender + ", 0, " + c + ")", x.send(sender, 0, c), WAITS);
                Due.is("take(5, 1, " + c + ", " + c + ")", x.take(5, 1, c, c), c);
                Due.is("pointer " + i + ": fiber(5, 5)", x.fiber(5, 5), 2 * (i % 5));
                Due.is("fiber(" + sender + ", 0)", x.fiber(sender, 0), 1);
            }
        }
    }

    private static void filledAndEmptiedManyTimes() {
        FiberHeap x = Scenes.sixFibers();
        for (int round = 0; round < 12; round++) {
            for (int i = 0; i < 3; i++) {
                Due.is("send(" + (round + i) % 5 + ", 0, 3)", x.send((round + i) % 5, 0, 3), 3);
            }
            for (int i = 0; i < 3; i++) {
                Due.is("take(5, 1, 3, 3)", x.take(5, 1, 3, 3), 3);
                Due.is("round " + round + ": fiber(5, 5)", x.fiber(5, 5), 2 * ((round + i) % 5));
            }
            Due.is("it is empty: take(5, 1, 3, 3)", x.take(5, 1, 3, 3), WAITS);
            x.wake(5);
        }
    }

    private static void channelsDoNotMix() {
        FiberHeap x = Scenes.sixFibers();
        x.send(1, 0, 1);
        x.send(2, 0, 2);
        x.send(3, 0, 3);
        x.send(4, 0, 0);
        for (int c = 3; c >= 1; c--) {
            Due.is("take(5, 1, " + c + ", " + c + ")", x.take(5, 1, c, c), c);
            Due.is("fiber(5, 5)", x.fiber(5, 5), 2 * c);
        }
        Due.is("take(5, 1, 0, 0)", x.take(5, 1, 0, 0), 0);
        Due.is("fiber(5, 5)", x.fiber(5, 5), 8);
    }

    private static void fiveThatWaitToSend() {
        int[] order = {3, 5, 1, 4, 2};
        for (int c = 0; c < 4; c++) {
            FiberHeap x = Scenes.sixFibers();
            for (int i = 0; i < c; i++) {
                x.send(0, 0, c);
            }
            for (int f : order) {
                Due.is("send(" + f + ", 0, " + c + ")", x.send(f, 0, c), WAITS);
            }
            for (int i = 0; i < 5; i++) {
                x.take(0, 3, c, c);
                Due.is("the first that waits: fiber(" + order[i] + ", 0)", x.fiber(order[i], 0), 1);
                for (int j = i + 1; j < 5; j++) {
                    Due.is("not yet: fiber(" + order[j] + ", 0)", x.fiber(order[j], 0), 2);
                }
                Due.is("channel " + c + ": fiber(0, 7)", x.fiber(0, 7), i < c ? 0 : 2 * order[i - c]);
            }
        }
    }

    private static void fiveThatWaitToTake() {
        int[] order = {4, 2, 5, 1, 3};
        for (int c = 0; c < 4; c++) {
            FiberHeap x = Scenes.sixFibers();
            for (int f : order) {
                Due.is("take(" + f + ", 1, " + c + ", " + c + ")", x.take(f, 1, c, c), WAITS);
            }
            for (int i = 0; i < 5; i++) {
                Due.is("send(0, 0, " + c + ")", x.send(0, 0, c), c);
                Due.is("the first that waits: fiber(" + order[i] + ", 0)", x.fiber(order[i], 0), 1);
                Due.is("fiber(" + order[i] + ", 5)", x.fiber(order[i], 5), 0);
                for (int j = i + 1; j < 5; j++) {
                    Due.is("not yet: fiber(" + order[j] + ", 0)", x.fiber(order[j], 0), 3);
                }
            }
            Due.is("none waits: send(0, 0, " + c + ")", x.send(0, 0, c), c == 0 ? WAITS : c);
        }
    }

    private static void oneThatWaitsAgainIsTheLast() {
        FiberHeap x = Scenes.sixFibers();
        x.take(1, 1, 2, 2);
        x.take(2, 1, 2, 2);
        x.wake(1);
        x.take(1, 1, 2, 2);
        x.send(0, 0, 2);
        Due.is("to take: fiber(2, 0)", x.fiber(2, 0), 1);
        Due.is("to take: fiber(1, 0)", x.fiber(1, 0), 3);
        x.send(3, 0, 0);
        x.send(4, 0, 0);
        x.wake(3);
        x.send(3, 0, 0);
        x.take(0, 1, 0, 0);
        Due.is("to send: fiber(4, 0)", x.fiber(4, 0), 1);
        Due.is("to send: fiber(3, 0)", x.fiber(3, 0), 2);
    }

    // ---- promise 14

    private static void sendToOneThatWaitsGoesPastTheChannel() {
        FiberHeap x = Scenes.sixFibers();
        x.take(1, 1, 3, 3);
        Due.is("send(0, 0, 3)", x.send(0, 0, 3), 3);
        Due.is("fiber(1, 5)", x.fiber(1, 5), 0);
        Due.is("f stays READY: fiber(0, 0)", x.fiber(0, 0), 1);
        Due.is("nothing is in the channel: take(2, 1, 3, 3)", x.take(2, 1, 3, 3), WAITS);
    }

    private static void sendAtChannelZero() {
        FiberHeap x = Scenes.sixFibers();
        x.take(1, 1, 0, 0);
        Due.is("one waits to take: send(0, 0, 0)", x.send(0, 0, 0), 0);
        Due.is("fiber(0, 0)", x.fiber(0, 0), 1);
        Due.is("fiber(1, 5)", x.fiber(1, 5), 0);
        Due.is("none waits: send(0, 0, 0)", x.send(0, 0, 0), WAITS);
        Due.is("fiber(0, 0)", x.fiber(0, 0), 2);
    }

    private static void sendIsOneReaderOnly() {
        FiberHeap x = Scenes.sixFibers();
        x.take(1, 1, 1, 2);
        x.take(2, 1, 2, 1);
        x.send(0, 0, 2);
        Due.is("the first: fiber(1, 5)", x.fiber(1, 5), 0);
        Due.is("fiber(1, 9)", x.fiber(1, 9), 2);
        Due.is("the second waits on: fiber(2, 0)", x.fiber(2, 0), 3);
        Due.is("fiber(2, 5)", x.fiber(2, 5), NIL);
        x.send(3, 0, 1);
        Due.is("at its other channel: fiber(2, 5)", x.fiber(2, 5), 6);
        Due.is("fiber(2, 9)", x.fiber(2, 9), 1);
    }

    private static void sendOfNilToOneThatWaits() {
        FiberHeap x = Scenes.sixFibers();
        x.take(1, 0, 1, 1);
        Due.is("send(0, 3, 1)", x.send(0, 3, 1), 1);
        Due.is("it overwrites: fiber(1, 4)", x.fiber(1, 4), NIL);
        Due.is("fiber(1, 9)", x.fiber(1, 9), 1);
        Due.is("fiber(1, 0)", x.fiber(1, 0), 1);
    }

    private static void sendOfNilThatWaits() {
        FiberHeap x = Scenes.sixFibers();
        Due.is("send(1, 1, 0)", x.send(1, 1, 0), WAITS);
        Due.is("take(0, 0, 0, 3)", x.take(0, 0, 0, 3), 0);
        Due.is("fiber(0, 4)", x.fiber(0, 4), NIL);
        Due.is("fiber(0, 9)", x.fiber(0, 9), 0);
        Due.is("fiber(1, 0)", x.fiber(1, 0), 1);
    }

    private static void theCellForWhichItWaits() {
        for (int k = 0; k < 5; k++) {
            FiberHeap x = Scenes.sixFibers();
            x.aim(1, 2);
            x.call(1);
            x.take(1, k, 2, 2);
            x.send(3, 0, 2);
            for (int cell = 0; cell < 4; cell++) {
                int due = cell == k ? 6 : cell == 0 ? 2 : NIL;
                Due.is("into cell " + k + ": fiber(1, " + (4 + cell) + ")", x.fiber(1, 4 + cell), due);
            }
            x.copy(1, 0, -1);
            x.leave(1);
            Due.is("into cell " + k + ": the frame before: fiber(1, 6)", x.fiber(1, 6), k == 4 ? 6 : NIL);
        }
    }

    private static void theCellThatItSends() {
        for (int k = 0; k < 5; k++) {
            for (int c = 0; c < 4; c += 3) {
                FiberHeap x = new FiberHeap();
                for (int i = 0; i < 4; i++) {
                    x.make(0, i, 2, 0);
                }
                x.aim(0, 1);
                x.call(0);
                x.copy(0, 1, -1);
                x.spawn(0, -1);
                int[] held = {0, NIL, 4, 6, 2};
                Due.is("send(0, " + k + ", " + c + ")", x.send(0, k, c), c == 0 ? WAITS : c);
                Due.is("take(1, 1, " + c + ", " + c + ")", x.take(1, 1, c, c), c);
                Due.is("cell " + k + ": fiber(1, 5)", x.fiber(1, 5), held[k]);
                Due.is("the sender's cell stays: fiber(0, 4)", x.fiber(0, 4), 0);
            }
        }
    }

    // ---- promise 15

    private static void takeFromTheFirstChannelThatGives() {
        FiberHeap x = Scenes.sixFibers();
        x.send(1, 0, 1);
        x.send(2, 0, 2);
        Due.is("both give: take(0, 1, 2, 1)", x.take(0, 1, 2, 1), 2);
        Due.is("fiber(0, 5)", x.fiber(0, 5), 4);
        Due.is("c gives none: take(0, 1, 2, 1)", x.take(0, 1, 2, 1), 1);
        Due.is("fiber(0, 5)", x.fiber(0, 5), 2);
    }

    private static void oneThatWaitsAtCComesBeforeWhatDHolds() {
        FiberHeap x = Scenes.sixFibers();
        x.send(1, 0, 3);
        x.send(2, 0, 0);
        Due.is("take(0, 1, 0, 3)", x.take(0, 1, 0, 3), 0);
        Due.is("fiber(0, 5)", x.fiber(0, 5), 4);
        Due.is("take(0, 1, 0, 3)", x.take(0, 1, 0, 3), 3);
        Due.is("fiber(0, 5)", x.fiber(0, 5), 2);
    }

    private static void takeFromAChannelAtWhichNobodyWaits() {
        FiberHeap x = Scenes.sixFibers();
        x.send(1, 0, 2);
        Due.is("take(0, 1, 2, 2)", x.take(0, 1, 2, 2), 2);
        Due.is("fiber(0, 5)", x.fiber(0, 5), 2);
        Due.is("it is empty then: take(0, 1, 2, 2)", x.take(0, 1, 2, 2), WAITS);
        Due.is("the cell stays: fiber(0, 5)", x.fiber(0, 5), 2);
    }

    private static void whoWaitsEntersTheFullChannel() {
        FiberHeap x = Scenes.sixFibers();
        x.send(1, 0, 1);
        x.send(2, 0, 1);
        Due.is("take(0, 1, 1, 1)", x.take(0, 1, 1, 1), 1);
        Due.is("what it held: fiber(0, 5)", x.fiber(0, 5), 2);
        Due.is("fiber(2, 0)", x.fiber(2, 0), 1);
        Due.is("it is full again: send(3, 0, 1)", x.send(3, 0, 1), WAITS);
        x.wake(3);
        Due.is("take(0, 1, 1, 1)", x.take(0, 1, 1, 1), 1);
        Due.is("what entered: fiber(0, 5)", x.fiber(0, 5), 4);
    }

    private static void takeFromAnEmptyChannelAtWhichOneWaits() {
        FiberHeap x = Scenes.sixFibers();
        x.send(1, 0, 0);
        x.send(2, 0, 0);
        Due.is("take(0, 1, 0, 0)", x.take(0, 1, 0, 0), 0);
        Due.is("fiber(0, 5)", x.fiber(0, 5), 2);
        Due.is("fiber(1, 0)", x.fiber(1, 0), 1);
        Due.is("the other waits on: fiber(2, 0)", x.fiber(2, 0), 2);
    }

    private static void neitherGivesOne() {
        for (int c = 0; c < 4; c++) {
            for (int d = 0; d < 4; d++) {
                for (int at = 0; at < 4; at++) {
                    FiberHeap x = Scenes.sixFibers();
                    Due.is("take(1, 1, " + c + ", " + d + ")", x.take(1, 1, c, d), WAITS);
                    Due.is("fiber(1, 0)", x.fiber(1, 0), 3);
                    boolean gets = at == c || at == d;
                    Due.is("send(0, 0, " + at + ")", x.send(0, 0, at), gets || at > 0 ? at : WAITS);
                    String told = "at " + c + " and " + d + ", sent at " + at + ": ";
                    Due.is(told + "fiber(1, 0)", x.fiber(1, 0), gets ? 1 : 3);
                    Due.is(told + "fiber(1, 5)", x.fiber(1, 5), gets ? 0 : NIL);
                    Due.is(told + "fiber(1, 9)", x.fiber(1, 9), gets ? at : FiberHeap.NONE);
                }
            }
        }
    }

    private static void theFirstPointerEndsTheWait() {
        FiberHeap x = Scenes.sixFibers();
        x.take(1, 1, 1, 2);
        x.send(2, 0, 2);
        Due.is("send(3, 0, 2)", x.send(3, 0, 2), 2);
        Due.is("send(4, 0, 1)", x.send(4, 0, 1), 1);
        Due.is("the first alone: fiber(1, 5)", x.fiber(1, 5), 4);
        Due.is("the others are in the channels: take(1, 2, 1, 1)", x.take(1, 2, 1, 1), 1);
        Due.is("fiber(1, 6)", x.fiber(1, 6), 8);
        Due.is("take(1, 2, 2, 2)", x.take(1, 2, 2, 2), 2);
        Due.is("fiber(1, 6)", x.fiber(1, 6), 6);
    }

    private static void theCellIntoWhichItTakes() {
        for (int k = 0; k < 5; k++) {
            FiberHeap x = Scenes.sixFibers();
            x.aim(1, 2);
            x.call(1);
            x.send(3, 0, 1);
            Due.is("take(1, " + k + ", 1, 1)", x.take(1, k, 1, 1), 1);
            for (int cell = 0; cell < 4; cell++) {
                int due = cell == k ? 6 : cell == 0 ? 2 : NIL;
                Due.is("into cell " + k + ": fiber(1, " + (4 + cell) + ")", x.fiber(1, 4 + cell), due);
            }
            x.leave(1);
            Due.is("into cell " + k + ": the frame before: fiber(1, 6)", x.fiber(1, 6), k == 4 ? 6 : NIL);
        }
    }

    public static void main(String[] args) {
        Due.test("Channel c holds at most c pointers", ChannelBoundsTest::aChannelHoldsAsManyAsItsNumber);
        Due.test("Channel c holds at most c pointers, NIL too", ChannelBoundsTest::aChannelHoldsNilToo);
        Due.test("They leave it in the order in which they entered", ChannelBoundsTest::pointersLeaveInTheirOrderManyTimesAround);
        Due.test("They leave a full one in their order", ChannelBoundsTest::aFullChannelManyTimesAround);
        Due.test("They leave one that is filled and emptied", ChannelBoundsTest::filledAndEmptiedManyTimes);
        Due.test("CHANNELS 0 .. 3, each its own", ChannelBoundsTest::channelsDoNotMix);
        Due.test("Served in the order in which they began to wait: to send", ChannelBoundsTest::fiveThatWaitToSend);
        Due.test("Served in the order in which they began to wait: to take", ChannelBoundsTest::fiveThatWaitToTake);
        Due.test("Served in the order: one that waits again", ChannelBoundsTest::oneThatWaitsAgainIsTheLast);
        Due.test("14: if a fiber waits to take at c", ChannelBoundsTest::sendToOneThatWaitsGoesPastTheChannel);
        Due.test("14: channel 0 never holds one", ChannelBoundsTest::sendAtChannelZero);
        Due.test("14: the first of them gets the pointer", ChannelBoundsTest::sendIsOneReaderOnly);
        Due.test("14: the pointer (NIL too) to one that waits", ChannelBoundsTest::sendOfNilToOneThatWaits);
        Due.test("14: the pointer (NIL too) that waits", ChannelBoundsTest::sendOfNilThatWaits);
        Due.test("14: into the cell for which it waits", ChannelBoundsTest::theCellForWhichItWaits);
        Due.test("14: the pointer that its cell k holds", ChannelBoundsTest::theCellThatItSends);
        Due.test("15: from channel c or, if c gives none, from channel d", ChannelBoundsTest::takeFromTheFirstChannelThatGives);
        Due.test("15: c gives one of a fiber that waits", ChannelBoundsTest::oneThatWaitsAtCComesBeforeWhatDHolds);
        Due.test("15: a channel that holds pointers gives the first", ChannelBoundsTest::takeFromAChannelAtWhichNobodyWaits);
        Due.test("15: the pointer of the first that waits enters", ChannelBoundsTest::whoWaitsEntersTheFullChannel);
        Due.test("15: a channel that holds none gives the pointer of one", ChannelBoundsTest::takeFromAnEmptyChannelAtWhichOneWaits);
        Due.test("15: if neither gives one, f waits at c and at d", ChannelBoundsTest::neitherGivesOne);
        Due.test("15: the first pointer at either ends that", ChannelBoundsTest::theFirstPointerEndsTheWait);
        Due.test("15: into its cell k", ChannelBoundsTest::theCellIntoWhichItTakes);
        Due.close();
    }
}
