import java.util.Arrays;
import java.util.Random;

/**
 * Long runs of calls, always the same ones, on the program and on the model side by side. Each answer is compared, and
 * at the end of a run all that can be seen; the runs are of all lengths, so that all states come to be seen.
 */
public final class RandomRunsTest {
    // What is promised ends with the 512th call, and the questions at the end are calls too.
    private static final int MOST_CALLS = 512 - Seen.QUESTIONS;
    private static final int[] ODD = {Integer.MIN_VALUE, -3, -2, -1, 4, 5, 6, 7, 16, 64, 65, Integer.MAX_VALUE};

    private static final String[] NAMES = {"spawn", "end", "wake", "call", "leave", "aim", "copy", "make", "set", "get",
        "store", "load", "send", "take", "mark", "sweep", "collect", "fiber", "count", "page"};

    // How often each call of NAMES comes up, a row a kind of run.
    private static final int[][] KINDS = {
        {3, 1, 4, 4, 4, 3, 6, 14, 14, 8, 6, 4, 6, 6, 6, 2, 2, 12, 6, 4},
        {1, 1, 2, 2, 2, 1, 8, 40, 20, 6, 2, 2, 1, 1, 3, 1, 1, 2, 6, 4},
        {4, 1, 6, 2, 2, 2, 3, 6, 3, 3, 1, 1, 20, 20, 5, 2, 2, 16, 4, 1},
        {2, 2, 2, 20, 14, 6, 8, 8, 6, 6, 2, 2, 2, 2, 6, 2, 3, 16, 4, 1},
        {3, 2, 3, 3, 3, 2, 8, 14, 22, 10, 0, 0, 5, 5, 14, 3, 3, 6, 12, 3},
        {8, 8, 4, 1, 1, 1, 12, 8, 10, 8, 0, 0, 12, 12, 8, 4, 8, 4, 10, 1},
    };

    private final Random random;
    private final int oddity;
    private final int largest;
    private final FiberHeap program = new FiberHeap();
    private final Model model = new Model();

    private RandomRunsTest(long seed) {
        random = new Random(seed);
        oddity = random.nextInt(4) == 0 ? 5 : 60;
        largest = new int[] {2, 8, 20, 64}[random.nextInt(4)];
    }

    private int number(int bound) {
        return random.nextInt(oddity) == 0 ? ODD[random.nextInt(ODD.length)] : random.nextInt(bound);
    }

    private int fiber() {
        if (random.nextInt(8) == 0) {
            return number(6);
        }
        // Mostly a fiber that is ready, or the run would stand still.
        int f = random.nextInt(6);
        for (int i = 0; i < 6; i++) {
            if (model.fiber((f + i) % 6, 0) == 1) {
                return (f + i) % 6;
            }
        }
        return f;
    }

    private int cell() {
        return number(5);
    }

    private int source() {
        return number(6) - 1;
    }

    private static int pick(Random random, int[] weights) {
        int sum = 0;
        for (int w : weights) {
            sum += w;
        }
        int at = random.nextInt(sum);
        int i = 0;
        while (at >= weights[i]) {
            at -= weights[i];
            i++;
        }
        return i;
    }

    private static int bit(boolean b) {
        return b ? 1 : 0;
    }

    private int[] arguments(String name) {
        switch (name) {
            case "spawn": return new int[] {fiber(), source()};
            case "end": case "wake": return new int[] {number(6)};
            case "call": case "leave": return new int[] {fiber()};
            case "aim": return new int[] {fiber(), number(4)};
            case "copy": return new int[] {fiber(), cell(), source()};
            case "make": {
                int words = number(largest) + 1;
                return new int[] {fiber(), cell(), words, number(Math.max(1, Math.min(words, 64)) + 1)};
            }
            case "set": return new int[] {fiber(), cell(), number(3), source()};
            case "get": return new int[] {fiber(), cell(), cell(), number(3)};
            case "store": return new int[] {fiber(), cell(), number(5), random.nextInt()};
            case "load": return new int[] {fiber(), cell(), number(5)};
            case "send": return new int[] {fiber(), cell(), number(4)};
            case "take": return new int[] {fiber(), cell(), number(4), number(4)};
            case "mark": return new int[] {number(6)};
            case "sweep": return new int[] {number(4)};
            case "fiber": return new int[] {number(6), number(10)};
            case "count": return new int[] {number(12)};
            case "page": return new int[] {number(16)};
            default: return new int[0];
        }
    }

    private int ofProgram(String name, int[] a) {
        FiberHeap x = program;
        switch (name) {
            case "spawn": return x.spawn(a[0], a[1]);
            case "end": return bit(x.end(a[0]));
            case "wake": return bit(x.wake(a[0]));
            case "call": return bit(x.call(a[0]));
            case "leave": return bit(x.leave(a[0]));
            case "aim": return bit(x.aim(a[0], a[1]));
            case "copy": return bit(x.copy(a[0], a[1], a[2]));
            case "make": return x.make(a[0], a[1], a[2], a[3]);
            case "set": return bit(x.set(a[0], a[1], a[2], a[3]));
            case "get": return bit(x.get(a[0], a[1], a[2], a[3]));
            case "store": return bit(x.store(a[0], a[1], a[2], a[3]));
            case "load": return x.load(a[0], a[1], a[2]);
            case "send": return x.send(a[0], a[1], a[2]);
            case "take": return x.take(a[0], a[1], a[2], a[3]);
            case "mark": return x.mark(a[0]);
            case "sweep": return x.sweep(a[0]);
            case "collect": return bit(x.collect());
            case "fiber": return x.fiber(a[0], a[1]);
            case "count": return x.count(a[0]);
            default: return x.page(a[0]);
        }
    }

    private int ofModel(String name, int[] a) {
        Model x = model;
        switch (name) {
            case "spawn": return x.spawn(a[0], a[1]);
            case "end": return bit(x.end(a[0]));
            case "wake": return bit(x.wake(a[0]));
            case "call": return bit(x.call(a[0]));
            case "leave": return bit(x.leave(a[0]));
            case "aim": return bit(x.aim(a[0], a[1]));
            case "copy": return bit(x.copy(a[0], a[1], a[2]));
            case "make": return x.make(a[0], a[1], a[2], a[3]);
            case "set": return bit(x.set(a[0], a[1], a[2], a[3]));
            case "get": return bit(x.get(a[0], a[1], a[2], a[3]));
            case "store": return bit(x.store(a[0], a[1], a[2], a[3]));
            case "load": return x.load(a[0], a[1], a[2]);
            case "send": return x.send(a[0], a[1], a[2]);
            case "take": return x.take(a[0], a[1], a[2], a[3]);
            case "mark": return x.mark(a[0]);
            case "sweep": return x.sweep(a[0]);
            case "collect": return bit(x.collect());
            case "fiber": return x.fiber(a[0], a[1]);
            case "count": return x.count(a[0]);
            default: return x.page(a[0]);
        }
    }

    private void compareAll(String run) {
        int[] seen = Seen.of(program);
        int[] due = Seen.of(model);
        for (int i = 0; i < seen.length; i++) {
            Due.is(run + ": " + Seen.question(i), seen[i], due[i]);
        }
    }

    private void run(long seed, int[] weights) {
        int calls = random.nextInt(3) == 0 ? MOST_CALLS : 1 + random.nextInt(MOST_CALLS);
        for (int i = 0; i < calls && Due.wrongSoFar() == 0; i++) {
            String name = NAMES[pick(random, weights)];
            int[] a = arguments(name);
            String call = "run " + seed + ", call " + i + ": " + name + Arrays.toString(a);
            int want = ofModel(name, a);
            Due.is(call, ofProgram(name, a), want);
            Due.yes(call + ": every pointer leads to an object", model.isSound());
        }
        compareAll("run " + seed + ", after " + calls + " calls");
    }

    public static void main(String[] args) {
        int seeds = args.length > 0 ? Integer.parseInt(args[0]) : 6000;
        for (int seed = 1; seed <= seeds && Due.wrongSoFar() == 0; seed++) {
            new RandomRunsTest(seed).run(seed, KINDS[seed % KINDS.length]);
        }
        Due.close();
    }
}
