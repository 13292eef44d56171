/** Counts what is as due and what is not; every test's main ends with end(). */
final class Check {
    interface Call {
        Object answer();
    }

    private static int passed = 0;
    private static int failed = 0;

    private Check() {
    }

    static void due(String what, Object got, Object want) {
        if (String.valueOf(got).equals(String.valueOf(want))) {
            passed++;
        } else {
            failed++;
            System.out.println(what + " answered " + got + ", due is " + want);
        }
    }

    /** The call must throw exactly this class and leave the object's answers as they were. */
    static void fails(PlateauBench x, String what, Class<? extends RuntimeException> due, Call call) {
        String before = State.of(x);
        Object got;
        try {
            got = call.answer();
        } catch (RuntimeException e) {
            got = e.getClass();
        }
        due(what, got, due);
        due(what + ", the state behind it", State.of(x), before);
    }

    static void end() {
        System.out.println(passed + " passed, " + failed + " failed");
        if (failed > 0) {
            System.exit(1);
        }
    }
}
