import java.util.function.IntBinaryOperator;
import java.util.function.IntUnaryOperator;

/** All that can be seen of an object without changing it. */
final class Seen {
    private static final int FIBERS = 6;
    private static final int FIBER_QUESTIONS = 10;
    private static final int COUNTS = 12;
    private static final int PAGES = 16;
    /** How many calls it takes. */
    static final int QUESTIONS = FIBERS * FIBER_QUESTIONS + COUNTS + PAGES;

    private Seen() {
    }

    static int[] of(FiberHeap x) {
        return answers(x::fiber, x::count, x::page);
    }

    static int[] of(Model x) {
        return answers(x::fiber, x::count, x::page);
    }

    private static int[] answers(IntBinaryOperator fiber, IntUnaryOperator count, IntUnaryOperator page) {
        int[] seen = new int[QUESTIONS];
        int n = 0;
        for (int f = 0; f < FIBERS; f++) {
            for (int what = 0; what < FIBER_QUESTIONS; what++) {
                seen[n++] = fiber.applyAsInt(f, what);
            }
        }
        for (int what = 0; what < COUNTS; what++) {
            seen[n++] = count.applyAsInt(what);
        }
        for (int p = 0; p < PAGES; p++) {
            seen[n++] = page.applyAsInt(p);
        }
        return seen;
    }

    static String question(int n) {
        if (n < FIBERS * FIBER_QUESTIONS) {
            return "fiber(" + n / FIBER_QUESTIONS + ", " + n % FIBER_QUESTIONS + ")";
        }
        int rest = n - FIBERS * FIBER_QUESTIONS;
        return rest < COUNTS ? "count(" + rest + ")" : "page(" + (rest - COUNTS) + ")";
    }
}
