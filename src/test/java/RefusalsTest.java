import java.util.List;
import java.util.function.Consumer;
import java.util.function.ToIntFunction;

/**
 * Every reason for which a call is refused, one test each, and that a refused call changes nothing: the call is made on
 * one of two objects that were made alike, and then both are asked for all that they hold.
 */
public final class RefusalsTest {
    private static final int MIN = Integer.MIN_VALUE;
    private static final int MAX = Integer.MAX_VALUE;
    private static final int NONE = FiberHeap.NONE;

    private static final int[] TOO_SMALL = {MIN, -2, -1};
    private static final int[] TOO_LARGE_FIBER = {6, 7, MAX};
    private static final int[] NO_CELLS = {MIN, -2, -1, 5, 6, MAX};
    private static final int[] NO_SOURCES = {MIN, -3, -2, 5, 6, MAX};
    private static final int[] NO_CHANNELS = {MIN, -1, 4, 5, MAX};
    private static final int[] NO_POINTER_WORDS = {MIN, -1, 2, 5, 6, MAX};
    private static final int[] NO_INT_WORDS = {MIN, -1, 0, 1, 6, 7, 8, MAX};

    private static final int SENDS = 1;
    private static final int TAKES = 2;
    private static final int ENDED = 3;
    private static final int NEVER_LIVED = 5;

    /** What is done with every object before the call. */
    private static final List<Consumer<FiberHeap>> STATES = List.of(RefusalsTest::freshIsAboveTrigger,
        RefusalsTest::marking, RefusalsTest::unswept);

    /*
     * Fibers 0 and 4 are READY, 1 waits to send at channel 0, 2 waits to take at channel 1, 3 has ended, 5 never lived.
     * Each had two frames, and in both cell 0 holds an object of 6 words, 2 of them pointer words, cell 1 another one
     * and cell 3 NIL. REF is NONE in fiber 4, in the others it is cell 1 of the older frame. Channel 3 holds two
     * pointers, channel 2 holds one.
     */
    private static FiberHeap scene() {
        FiberHeap x = new FiberHeap();
        x.make(0, 2, 3, 1);
        x.make(0, 0, 6, 2);
        x.make(0, 1, 6, 2);
        x.set(0, 0, 0, 1);
        x.set(0, 0, 1, 0);
        x.set(0, 1, 0, 2);
        x.store(0, 0, 2, 31);
        x.store(0, 0, 5, 32);
        x.store(0, 1, 5, 33);
        x.store(0, 2, 2, 34);
        for (int f = 0; f < 5; f++) {
            if (f > 0) {
                x.spawn(0, 0);
                x.get(f, 1, 0, 0);
            }
            if (f < 4) {
                x.aim(f, 1);
            }
        }
        for (int f = 0; f < 5; f++) {
            x.call(f);
        }
        x.send(0, 0, 3);
        x.send(0, 1, 3);
        x.send(0, 2, 2);
        x.send(SENDS, 1, 0);
        x.take(TAKES, 1, 1, 1);
        x.end(ENDED);
        return x;
    }

    private static void freshIsAboveTrigger(FiberHeap x) {
        x.make(0, 3, 64, 0);
        x.copy(0, 3, -1);
    }

    private static void marking(FiberHeap x) {
        x.make(0, 3, 2, 0);
        x.copy(0, 3, -1);
        x.collect();
        x.mark(2);
    }

    private static void unswept(FiberHeap x) {
        x.make(0, 3, 2, 0);
        x.copy(0, 3, -1);
        x.collect();
        x.mark(99);
    }

    private static void nothingMore(FiberHeap x) {
    }

    private static FiberHeap made(Consumer<FiberHeap> more, Consumer<FiberHeap> state) {
        FiberHeap x = scene();
        state.accept(x);
        more.accept(x);
        return x;
    }

    private static void refusedAfter(Consumer<FiberHeap> more, String call, int want, ToIntFunction<FiberHeap> made) {
        for (int s = 0; s < STATES.size(); s++) {
            refusedIn(s, more, call, want, made);
        }
    }

    private static void refusedIn(int s, Consumer<FiberHeap> more, String call, int want, ToIntFunction<FiberHeap> made) {
        FiberHeap x = made(more, STATES.get(s));
        FiberHeap twin = made(more, STATES.get(s));
        String told = "state " + s + ": " + call;
        Due.is(told, made.applyAsInt(x), want);
        List<String> got = Probe.of(x);
        List<String> due = Probe.of(twin);
        for (int i = 0; i < due.size(); i++) {
            if (!got.get(i).equals(due.get(i))) {
                Due.yes(told + " changed something: then " + got.get(i) + ", without it " + due.get(i), false);
                return;
            }
        }
    }

    private static void refused(String call, int want, ToIntFunction<FiberHeap> made) {
        refusedAfter(RefusalsTest::nothingMore, call, want, made);
    }

    private static int bit(boolean answer) {
        return answer ? 1 : 0;
    }

    // ---- f is not ready

    private interface OfFiber {
        int made(FiberHeap x, int f);
    }

    private static void notReady(String name, int want, OfFiber call) {
        String refused = name + ": Refused: f is not ready: ";
        Due.test(refused + "f is less than 0", () -> ofFibers(name, want, call, TOO_SMALL));
        Due.test(refused + "f is more than 5", () -> ofFibers(name, want, call, TOO_LARGE_FIBER));
        Due.test(refused + "it has ended", () -> ofFibers(name, want, call, ENDED));
        Due.test(refused + "it never lived", () -> ofFibers(name, want, call, NEVER_LIVED));
        Due.test(refused + "it waits to send", () -> ofFibers(name, want, call, SENDS));
        Due.test(refused + "it waits to take", () -> ofFibers(name, want, call, TAKES));
    }

    private static void ofFibers(String name, int want, OfFiber call, int... fibers) {
        for (int f : fibers) {
            refused(name + " with f " + f, want, x -> call.made(x, f));
        }
    }

    private static void everyCallOfAFiber() {
        notReady("2 spawn", NONE, (x, f) -> x.spawn(f, 0));
        notReady("2 spawn of NIL", NONE, (x, f) -> x.spawn(f, -1));
        notReady("5 call", 0, (x, f) -> bit(x.call(f)));
        notReady("6 leave", 0, (x, f) -> bit(x.leave(f)));
        notReady("7 aim", 0, (x, f) -> bit(x.aim(f, 0)));
        notReady("8 copy", 0, (x, f) -> bit(x.copy(f, 0, 1)));
        notReady("8 copy of NIL", 0, (x, f) -> bit(x.copy(f, 0, -1)));
        notReady("9 make", NONE, (x, f) -> x.make(f, 0, 2, 0));
        notReady("10 set", 0, (x, f) -> bit(x.set(f, 0, 0, 0)));
        notReady("10 set of NIL", 0, (x, f) -> bit(x.set(f, 0, 1, -1)));
        notReady("11 get", 0, (x, f) -> bit(x.get(f, 0, 0, 0)));
        notReady("12 store", 0, (x, f) -> bit(x.store(f, 0, 5, 8)));
        notReady("13 load", 0, (x, f) -> x.load(f, 0, 5));
        notReady("14 send", NONE, (x, f) -> x.send(f, 0, 3));
        notReady("14 send to one that waits", NONE, (x, f) -> x.send(f, 0, 1));
        notReady("15 take", NONE, (x, f) -> x.take(f, 0, 3, 3));
        notReady("15 take of one that waits", NONE, (x, f) -> x.take(f, 0, 0, 0));
    }

    // ---- what is no cell

    private static void noCell(String name, int want, OfCell call) {
        Due.test(name + ": Refused: it is no cell", () -> {
            for (int k : NO_CELLS) {
                refused(name + " with cell " + k, want, x -> call.made(x, 0, k));
            }
        });
        refNone(name, want, call);
    }

    private static void noSource(String name, int want, OfCell call) {
        Due.test(name + ": Refused: it is neither a cell nor -1", () -> {
            for (int k : NO_SOURCES) {
                refused(name + " with cell " + k, want, x -> call.made(x, 0, k));
            }
        });
        refNone(name, want, call);
    }

    private static void refNone(String name, int want, OfCell call) {
        Due.test(name + ": Refused: 4 is no cell when REF is NONE",
            () -> refused(name + " of fiber 4 with cell 4", want, x -> call.made(x, 4, 4)));
    }

    private interface OfCell {
        int made(FiberHeap x, int f, int k);
    }

    private static void everyCallWithACell() {
        noSource("2 spawn", NONE, (x, f, k) -> x.spawn(f, k));
        noCell("8 copy to", 0, (x, f, k) -> bit(x.copy(f, k, 0)));
        noSource("8 copy from", 0, (x, f, k) -> bit(x.copy(f, 1, k)));
        noCell("9 make", NONE, (x, f, k) -> x.make(f, k, 2, 0));
        noCell("10 set k", 0, (x, f, k) -> bit(x.set(f, k, 0, 0)));
        noSource("10 set from", 0, (x, f, k) -> bit(x.set(f, 0, 0, k)));
        noCell("11 get to", 0, (x, f, k) -> bit(x.get(f, k, 0, 0)));
        noCell("11 get k", 0, (x, f, k) -> bit(x.get(f, 1, k, 0)));
        noCell("12 store", 0, (x, f, k) -> bit(x.store(f, k, 5, 8)));
        noCell("13 load", 0, (x, f, k) -> x.load(f, k, 5));
        noCell("14 send", NONE, (x, f, k) -> x.send(f, k, 3));
        noCell("14 send to one that waits", NONE, (x, f, k) -> x.send(f, k, 1));
        noCell("15 take", NONE, (x, f, k) -> x.take(f, k, 3, 3));
        noCell("15 take of one that waits", NONE, (x, f, k) -> x.take(f, k, 0, 0));
        noCell("15 take of what is not there", NONE, (x, f, k) -> x.take(f, k, 1, 1));
    }

    private static void holdsNil() {
        Due.test("10 set: Refused: k holds NIL", () -> refused("set(0, 3, 0, 0)", 0, x -> bit(x.set(0, 3, 0, 0))));
        Due.test("11 get: Refused: k holds NIL", () -> refused("get(0, 1, 3, 0)", 0, x -> bit(x.get(0, 1, 3, 0))));
        Due.test("12 store: Refused: k holds NIL", () -> refused("store(0, 3, 2, 1)", 0, x -> bit(x.store(0, 3, 2, 1))));
        Due.test("13 load: k holds NIL", () -> refused("load(0, 3, 2)", 0, x -> x.load(0, 3, 2)));
    }

    // ---- other reasons

    private static void fibers() {
        Due.test("2 spawn: Refused: all six live", () -> refusedAfter(RefusalsTest::sixLive, "spawn(0, 0)", NONE,
            x -> x.spawn(0, 0)));
        Due.test("3 end: Refused: f is not 0 .. 5", () -> {
            for (int f : new int[] {MIN, -1, 6, MAX}) {
                refused("end(" + f + ")", 0, x -> bit(x.end(f)));
            }
        });
        Due.test("3 end: Refused: f does not live", () -> {
            refused("it has ended: end(3)", 0, x -> bit(x.end(ENDED)));
            refused("it never lived: end(5)", 0, x -> bit(x.end(NEVER_LIVED)));
        });
        Due.test("3 end: Refused: no other fiber lives", () -> {
            refusedAfter(x -> endAllBut(x, 4), "it is READY: end(4)", 0, x -> bit(x.end(4)));
            refusedAfter(x -> endAllBut(x, SENDS), "it waits: end(1)", 0, x -> bit(x.end(SENDS)));
            refusedAfter(x -> endAllBut(x, TAKES), "it waits: end(2)", 0, x -> bit(x.end(TAKES)));
        });
        Due.test("4 wake: Refused: f is not 0 .. 5", () -> {
            for (int f : new int[] {MIN, -1, 6, MAX}) {
                refused("wake(" + f + ")", 0, x -> bit(x.wake(f)));
            }
        });
        Due.test("4 wake: Refused: f does not live", () -> {
            refused("it has ended: wake(3)", 0, x -> bit(x.wake(ENDED)));
            refusedAfter(x -> x.end(SENDS), "it waited when it ended: wake(1)", 0, x -> bit(x.wake(SENDS)));
            refused("it never lived: wake(5)", 0, x -> bit(x.wake(NEVER_LIVED)));
        });
        Due.test("4 wake: Refused: f does not wait", () -> {
            refused("wake(0)", 0, x -> bit(x.wake(0)));
            refusedAfter(x -> x.wake(SENDS), "it waits no more: wake(1)", 0, x -> bit(x.wake(SENDS)));
        });
        Due.test("5 call: Refused: it has 16 frames", () -> refusedAfter(RefusalsTest::sixteenFrames, "call(0)", 0,
            x -> bit(x.call(0))));
        Due.test("6 leave: Refused: it has one frame", () -> refusedAfter(x -> x.leave(0), "leave(0)", 0,
            x -> bit(x.leave(0))));
        Due.test("7 aim: Refused: k is not 0 .. 3", () -> {
            for (int k : new int[] {MIN, -1, 4, 5, MAX}) {
                refused("aim(0, " + k + ")", 0, x -> bit(x.aim(0, k)));
            }
        });
    }

    private static void sixLive(FiberHeap x) {
        x.spawn(0, 0);
        x.spawn(0, 0);
    }

    private static void endAllBut(FiberHeap x, int left) {
        for (int f = 0; f < 6; f++) {
            if (f != left) {
                x.end(f);
            }
        }
    }

    private static void sixteenFrames(FiberHeap x) {
        for (int i = 2; i < 16; i++) {
            x.call(0);
        }
    }

    private static void sizesAndWords() {
        Due.test("9 make: Refused: words is not 1 .. 64", () -> {
            for (int words : new int[] {MIN, -1, 0, 65, 66, 128, MAX - 15, MAX}) {
                refused("make(0, 1, " + words + ", 0)", NONE, x -> x.make(0, 1, words, 0));
                refused("make(0, 4, " + words + ", 0)", NONE, x -> x.make(0, 4, words, 0));
            }
        });
        Due.test("9 make: Refused: pointers is not 0 .. words", () -> {
            int[][] sizes = {{1, -1}, {1, 2}, {2, 3}, {8, 9}, {63, 64}, {64, 65}, {64, -1}, {3, MIN}, {3, MAX}};
            for (int[] s : sizes) {
                refused("make(0, 1, " + s[0] + ", " + s[1] + ")", NONE, x -> x.make(0, 1, s[0], s[1]));
            }
        });
        Due.test("10 set: Refused: w is not the number of a pointer word", () -> {
            for (int w : NO_POINTER_WORDS) {
                refused("set(0, 0, " + w + ", 0)", 0, x -> bit(x.set(0, 0, w, 0)));
            }
        });
        Due.test("11 get: Refused: w is not the number of a pointer word", () -> {
            for (int w : NO_POINTER_WORDS) {
                refused("get(0, 1, 0, " + w + ")", 0, x -> bit(x.get(0, 1, 0, w)));
            }
        });
        Due.test("12 store: Refused: w is not the number of an int word", () -> {
            for (int w : NO_INT_WORDS) {
                refused("store(0, 0, " + w + ", 7)", 0, x -> bit(x.store(0, 0, w, 7)));
            }
        });
        Due.test("13 load: w is not the number of an int word", () -> {
            for (int w : NO_INT_WORDS) {
                refused("load(0, 0, " + w + ")", 0, x -> x.load(0, 0, w));
            }
        });
    }

    private static void channels() {
        Due.test("14 send: Refused: c is not 0 .. 3", () -> {
            for (int c : NO_CHANNELS) {
                refused("send(0, 0, " + c + ")", NONE, x -> x.send(0, 0, c));
            }
        });
        Due.test("15 take: Refused: c is not 0 .. 3", () -> {
            for (int c : NO_CHANNELS) {
                refused("d would give: take(0, 1, " + c + ", 3)", NONE, x -> x.take(0, 1, c, 3));
                refused("d would give none: take(0, 1, " + c + ", 1)", NONE, x -> x.take(0, 1, c, 1));
            }
        });
        Due.test("15 take: Refused: d is not 0 .. 3", () -> {
            for (int d : NO_CHANNELS) {
                refused("c would give: take(0, 1, 3, " + d + ")", NONE, x -> x.take(0, 1, 3, d));
                refused("one waits at c: take(0, 1, 0, " + d + ")", NONE, x -> x.take(0, 1, 0, d));
                refused("c would give none: take(0, 1, 1, " + d + ")", NONE, x -> x.take(0, 1, 1, d));
            }
        });
    }

    private static void collector() {
        Due.test("16 mark: 0, and nothing changes, when n is less than 1", () -> {
            for (int n : new int[] {MIN, -1, 0}) {
                refused("mark(" + n + ")", 0, x -> x.mark(n));
            }
        });
        Due.test("16 mark: 0, and nothing changes, when it is at rest", () -> {
            for (int n : new int[] {1, 2, MAX}) {
                refusedIn(0, RefusalsTest::nothingMore, "mark(" + n + ")", 0, x -> x.mark(n));
                refusedIn(2, RefusalsTest::nothingMore, "mark(" + n + ")", 0, x -> x.mark(n));
            }
        });
        Due.test("17 sweep: 0 when n is less than 1", () -> {
            for (int n : new int[] {MIN, -1, 0}) {
                refused("sweep(" + n + ")", 0, x -> x.sweep(n));
            }
        });
        Due.test("18 collect: Refused: it is marking",
            () -> refusedIn(1, RefusalsTest::nothingMore, "collect()", 0, x -> bit(x.collect())));
    }

    private static void questions() {
        Due.test("19 fiber: NONE, and a question changes nothing", () -> {
            for (int what : new int[] {MIN, -1, 10, MAX}) {
                refused("fiber(0, " + what + ")", NONE, x -> x.fiber(0, what));
            }
            for (int f : new int[] {MIN, -1, 6, MAX}) {
                refused("fiber(" + f + ", 0)", NONE, x -> x.fiber(f, 0));
            }
        });
        Due.test("20 count: NONE for other numbers", () -> {
            for (int what : new int[] {MIN, -1, 12, MAX}) {
                refused("count(" + what + ")", NONE, x -> x.count(what));
            }
        });
        Due.test("21 page: NONE when p is not 0 .. 15", () -> {
            for (int p : new int[] {MIN, -1, 16, MAX}) {
                refused("page(" + p + ")", NONE, x -> x.page(p));
            }
        });
    }

    private static void severalReasons() {
        Due.test("REFUSED for the reasons that it names, whichever of them holds", () -> {
            refused("spawn(6, 5)", NONE, x -> x.spawn(6, 5));
            refused("spawn(1, 5)", NONE, x -> x.spawn(1, 5));
            refusedAfter(RefusalsTest::sixLive, "spawn(9, 9)", NONE, x -> x.spawn(9, 9));
            refusedAfter(RefusalsTest::sixteenFrames, "call(-1)", 0, x -> bit(x.call(-1)));
            refused("aim(3, 4)", 0, x -> bit(x.aim(3, 4)));
            refused("copy(5, -1, -2)", 0, x -> bit(x.copy(5, -1, -2)));
            refused("copy(0, 7, 7)", 0, x -> bit(x.copy(0, 7, 7)));
            refused("make(9, 9, 0, -1)", NONE, x -> x.make(9, 9, 0, -1));
            refused("make(0, 9, 65, 66)", NONE, x -> x.make(0, 9, 65, 66));
            refused("make(0, 1, -1, -1)", NONE, x -> x.make(0, 1, -1, -1));
            refused("set(2, 3, 9, 9)", 0, x -> bit(x.set(2, 3, 9, 9)));
            refused("set(0, 3, 0, 9)", 0, x -> bit(x.set(0, 3, 0, 9)));
            refused("get(-1, -1, -1, -1)", 0, x -> bit(x.get(-1, -1, -1, -1)));
            refused("get(0, 9, 3, 0)", 0, x -> bit(x.get(0, 9, 3, 0)));
            refused("store(6, 6, 6, 6)", 0, x -> bit(x.store(6, 6, 6, 6)));
            refused("load(-1, -1, -1)", 0, x -> x.load(-1, -1, -1));
            refused("send(1, 5, 4)", NONE, x -> x.send(1, 5, 4));
            refused("take(2, 5, 4, -1)", NONE, x -> x.take(2, 5, 4, -1));
        });
    }

    private static void theSceneIsAsTold() {
        for (Consumer<FiberHeap> state : STATES) {
            FiberHeap x = made(RefusalsTest::nothingMore, state);
            int[] states = {1, 2, 3, 0, 1, 0};
            for (int f = 0; f < 6; f++) {
                Due.is("fiber(" + f + ", 0)", x.fiber(f, 0), states[f]);
                if (states[f] != 0) {
                    Due.is("fiber(" + f + ", 1)", x.fiber(f, 1), 2);
                    Due.is("fiber(" + f + ", 4)", x.fiber(f, 4), 16);
                    Due.is("fiber(" + f + ", 5)", x.fiber(f, 5), 24);
                    Due.is("fiber(" + f + ", 7)", x.fiber(f, 7), FiberHeap.NIL);
                    Due.is("fiber(" + f + ", 8)", x.fiber(f, 8), f == 4 ? NONE : 1);
                }
            }
        }
        FiberHeap x = made(RefusalsTest::nothingMore, RefusalsTest::freshIsAboveTrigger);
        Due.yes("FRESH is above TRIGGER", x.count(4) == 0 && x.count(9) > x.count(10));
        x = made(RefusalsTest::nothingMore, RefusalsTest::marking);
        Due.yes("it is marking, two are scanned", x.count(4) == 1 && x.fiber(1, 3) == 1 && x.fiber(2, 3) == 0);
        x = made(RefusalsTest::nothingMore, RefusalsTest::unswept);
        Due.yes("three spans are unswept", x.count(4) == 0 && x.count(5) == 3);
        Due.is("one of them has nothing that was kept: sweep(3)", x.sweep(3), 3);
        Due.is("count(11)", x.count(11), 1);
    }

    public static void main(String[] args) {
        Due.test("the scene is as told", RefusalsTest::theSceneIsAsTold);
        everyCallOfAFiber();
        everyCallWithACell();
        holdsNil();
        fibers();
        sizesAndWords();
        channels();
        collector();
        questions();
        severalReasons();
        Due.close();
    }
}
