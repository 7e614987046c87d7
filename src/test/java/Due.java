/** Compares answers with the ones that are due, prints those that differ, and counts. */
final class Due {

    interface Call {
        int answer();
    }

    private static int compared = 0;
    private static int wrong = 0;

    private Due() {
    }

    static void is(String what, Object got, Object due) {
        compared++;
        if (!got.equals(due)) {
            wrong++;
            System.out.println(what + " answered " + got + ", due is " + due);
        }
    }

    static void answer(String what, int due, Call call) {
        is(what, outcome(call), String.valueOf(due));
    }

    static void outside(String what, Call call) {
        is(what, outcome(call), "IndexOutOfBoundsException");
    }

    static void wrongArgument(String what, Call call) {
        is(what, outcome(call), "IllegalArgumentException");
    }

    static void notNow(String what, Call call) {
        is(what, outcome(call), "IllegalStateException");
    }

    /** What a call answers, or the name of what it throws: just this class, none below it. */
    static String outcome(Call call) {
        try {
            return String.valueOf(call.answer());
        } catch (RuntimeException e) {
            return e.getClass().getSimpleName();
        }
    }

    static void end() {
        System.out.println(compared + " compared, " + wrong + " wrong");
        if (wrong != 0 || compared == 0) {
            System.exit(1);
        }
    }
}
