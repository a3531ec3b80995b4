/** Counts what a test checks and prints every answer that is not the one that is due. */
final class Check {
    interface Call {
        Object answer();
    }

    private static int passed = 0;
    private static int failed = 0;
    private static String heading = "";

    private Check() {
    }

    /** What a call answers, as text: its value, or throws. and the exception's name. */
    static String answerOf(Call call) {
        try {
            return String.valueOf(call.answer());
        } catch (RuntimeException e) {
            return "throws." + e.getClass().getSimpleName();
        }
    }

    /** What is printed before each check that follows. */
    static void under(String text) {
        heading = text;
    }

    static int made() {
        return passed + failed;
    }

    static void due(String what, Object due, Call call) {
        String got = answerOf(call);
        if (got.equals(String.valueOf(due))) {
            passed++;
        } else {
            failed++;
            System.out.println(heading + what + ": answered " + got + ", due is " + due);
        }
    }

    static void outside(String what, Call call) {
        due(what, "throws.IndexOutOfBoundsException", call);
    }

    static void illegal(String what, Call call) {
        due(what, "throws.IllegalArgumentException", call);
    }

    static void tooEarly(String what, Call call) {
        due(what, "throws.IllegalStateException", call);
    }

    static void noSuch(String what, Call call) {
        due(what, "throws.NoSuchElementException", call);
    }

    /** Ends the test: exit code 1 if a check failed. */
    static void end(String test) {
        System.out.println(test + ": " + passed + " checks held, " + failed + " did not");
        if (failed > 0 || passed == 0) {
            System.exit(1);
        }
    }
}
