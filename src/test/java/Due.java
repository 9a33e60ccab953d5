/** Compares answers with those that are due, and ends a test with exit code 1 if one was not. */
final class Due {
    private static int asked = 0;
    private static int wrong = 0;
    private static int tests = 0;
    private static String sentence = "";

    private Due() {
    }

    /** Runs the test of one sentence of the document; one that fails does not keep the others from being run. */
    static void test(String itsSentence, Runnable body) {
        tests++;
        sentence = itsSentence + ": ";
        try {
            body.run();
        } catch (RuntimeException | Error e) {
            wrong++;
            System.out.println(sentence + "a call threw " + e);
        }
        sentence = "";
    }

    static void is(String call, long got, long want) {
        asked++;
        if (got != want) {
            wrong++;
            System.out.println(sentence + call + " answered " + got + ", due is " + want);
        }
    }

    static void yes(String call, boolean got) {
        is(call, got ? 1 : 0, 1);
    }

    static void no(String call, boolean got) {
        is(call, got ? 1 : 0, 0);
    }

    static int wrongSoFar() {
        return wrong;
    }

    static void close() {
        String shown = tests == 0 ? "" : tests + " sentences, ";
        System.out.println(shown + asked + " answers looked at, " + wrong + " not as due");
        if (wrong != 0) {
            System.exit(1);
        }
    }
}
