/** Compares answers with what is due, prints those that differ, and ends the program with their verdict. */
final class Check {
    private static int done = 0;
    private static int wrong = 0;

    private Check() {
    }

    /** One call of a SyntaxTree. */
    interface Call {
        int make();
    }

    static void same(String what, Object got, Object due) {
        done++;
        if (!got.equals(due)) {
            wrong++;
            System.out.println(what + "\n   answered " + got + "\n   due is   " + due);
        }
    }

    /** The answer of the call, or the short name of the exception that it throws. */
    static String answer(Call call) {
        try {
            return String.valueOf(call.make());
        } catch (RuntimeException | StackOverflowError thrown) {
            return thrown.getClass().getSimpleName();
        }
    }

    static void answers(String what, Call call, int due) {
        same(what, answer(call), String.valueOf(due));
    }

    static void refusesArgument(String what, Call call) {
        same(what, answer(call), "IllegalArgumentException");
    }

    static void refusesState(String what, Call call) {
        same(what, answer(call), "IllegalStateException");
    }

    static void refusesIndex(String what, Call call) {
        same(what, answer(call), "IndexOutOfBoundsException");
    }

    static void end() {
        System.out.println(done + " checks, " + wrong + " wrong");
        if (wrong > 0 || done == 0) {
            System.exit(1);
        }
    }
}
