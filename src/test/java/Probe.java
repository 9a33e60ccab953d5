import java.util.ArrayList;
import java.util.List;

/** Asks an object for all that it holds, also what no question tells: words, channels, who waits, what is noted. */
final class Probe {
    private final FiberHeap x;
    private final List<String> told = new ArrayList<>();

    private Probe(FiberHeap object) {
        x = object;
    }

    /** The answers of a fixed run of some 300 calls, each with its call; two objects in the same state tell the same. */
    static List<String> of(FiberHeap object) {
        Probe probe = new Probe(object);
        probe.questions();
        probe.words();
        probe.marking();
        probe.channels();
        probe.olderFrames();
        probe.whatIsLeft();
        return probe.told;
    }

    private void tell(String call, int answer) {
        told.add(call + " answered " + answer);
    }

    private void tell(String call, boolean answer) {
        told.add(call + " answered " + answer);
    }

    private void questions() {
        int[] seen = Seen.of(x);
        for (int i = 0; i < seen.length; i++) {
            tell(Seen.question(i), seen[i]);
        }
    }

    private void words() {
        for (int f = 0; f <= 4; f += 4) {
            for (int k = 0; k <= 4; k++) {
                for (int w = 1; w < 6; w++) {
                    tell("load(" + f + ", " + k + ", " + w + ")", x.load(f, k, w));
                }
            }
        }
        for (int k = 0; k < 3; k++) {
            for (int w = 0; w < 2; w++) {
                tell("get(0, 3, " + k + ", " + w + ")", x.get(0, 3, k, w));
                tell("fiber(0, 7)", x.fiber(0, 7));
            }
        }
        x.copy(0, 3, -1);
    }

    private void marking() {
        for (int i = 0; i < 10; i++) {
            tell("mark(1)", x.mark(1));
        }
        tell("count(10)", x.count(10));
    }

    private void channels() {
        for (int c = 3; c >= 2; c--) {
            for (int i = 0; i < 2; i++) {
                tell("take(4, 2, " + c + ", " + c + ")", x.take(4, 2, c, c));
                tell("fiber(4, 6)", x.fiber(4, 6));
                tell("wake(4)", x.wake(4));
            }
        }
        tell("send(4, 0, 1)", x.send(4, 0, 1));
        tell("fiber(2, 0)", x.fiber(2, 0));
        tell("fiber(2, 5)", x.fiber(2, 5));
        tell("take(4, 2, 0, 1)", x.take(4, 2, 0, 1));
        tell("fiber(1, 0)", x.fiber(1, 0));
        tell("fiber(4, 6)", x.fiber(4, 6));
        tell("wake(4)", x.wake(4));
        tell("take(4, 2, 0, 1)", x.take(4, 2, 0, 1));
        tell("wake(4)", x.wake(4));
    }

    private void olderFrames() {
        for (int f = 0; f < 5; f++) {
            tell("leave(" + f + ")", x.leave(f));
            for (int what = 1; what <= 8; what++) {
                tell("fiber(" + f + ", " + what + ")", x.fiber(f, what));
            }
        }
    }

    private void whatIsLeft() {
        tell("spawn(0, 1)", x.spawn(0, 1));
        tell("mark(99)", x.mark(99));
        tell("collect()", x.collect());
        tell("mark(99)", x.mark(99));
        tell("sweep(99)", x.sweep(99));
        for (int what = 0; what < 12; what++) {
            tell("count(" + what + ")", x.count(what));
        }
        for (int p = 0; p < 16; p++) {
            tell("page(" + p + ")", x.page(p));
        }
        tell("make(0, 3, 3, 1)", x.make(0, 3, 3, 1));
    }
}
