/** Counts what is as due and what is not; every test's main ends with end(). */
final class Check {
    interface Call {
        Object answer();
    }

    private static String sentence = "";
    private static int passed = 0;
    private static int failed = 0;

    private Check() {
    }

    /** What the checks from here on are for. */
    static void says(String text) {
        sentence = text;
    }

    /** The sentence of the document's terms that the checks from here on are for. */
    static void says(String section, String beginning) {
        sentence = Doc.tested(section, beginning);
    }

    /** The sentence of a promise that the checks from here on are for. */
    static void says(int promise, String beginning) {
        sentence = Doc.tested("Promise " + promise, beginning);
    }

    static void due(String what, Object got, Object want) {
        if (String.valueOf(got).equals(String.valueOf(want))) {
            passed++;
        } else {
            failed++;
            System.out.println((sentence.isEmpty() ? "" : "[" + sentence + "] ") + what + " answered " + got + ", due is " + want);
        }
    }

    /** The call must throw exactly this class, not one below it. */
    static void fails(String what, Class<? extends RuntimeException> due, Call call) {
        Object got;
        try {
            got = call.answer();
        } catch (RuntimeException e) {
            got = e.getClass();
        }
        due(what, got, due);
    }

    static void end() {
        System.out.println(passed + " passed, " + failed + " failed");
        if (failed > 0) {
            System.exit(1);
        }
    }
}
