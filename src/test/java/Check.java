/** Counts and prints what is not as due. */
final class Check {
    private static final int MOST_PRINTED = 40;
    private static int wrong = 0;
    private static int done = 0;
    private static String about = "";

    private Check() {
    }

    static int wrong() {
        return wrong;
    }

    static int done() {
        return done;
    }

    /** What the checks are about from now on; it is printed with a wrong answer. */
    static void setAbout(String sentence) {
        about = sentence;
    }

    static void same(String what, long got, long due) {
        holds(what + " answered " + got + ", due is " + due, got == due);
    }

    static void same(String what, boolean got, boolean due) {
        holds(what + " answered " + got + ", due is " + due, got == due);
    }

    static void same(String what, double got, double due) {
        holds(what + " answered " + got + ", due is " + due, Double.compare(got, due) == 0);
    }

    static void same(String what, String got, String due) {
        holds(what + " answered " + got + ", due is " + due, got.equals(due));
    }

    static void holds(String what, boolean isSo) {
        done++;
        if (!isSo) {
            wrong++;
            if (wrong <= MOST_PRINTED) {
                System.out.println("wrong: " + (about.isEmpty() ? "" : "[" + about + "] ") + what);
            }
        }
    }

    /** The call throws just this exception, and leaves the state, the buffer and the saved states. */
    static void refuses(String what, DictationBelt belt, Class<?> due, Runnable call) {
        String before = seen(belt);
        Class<?> got = null;
        try {
            call.run();
        } catch (RuntimeException e) {
            got = e.getClass();
        }
        same(what, String.valueOf(got), String.valueOf(due));
        same(what + ", the object after it", seen(belt), before);
    }

    /** The call saves one state, and undo restores all that was before it. */
    static void isUndoable(String what, DictationBelt belt, Runnable call) {
        String before = seen(belt);
        int saved = belt.savedStates();
        call.run();
        same(what + ": saved states", belt.savedStates(), Math.min(6, saved + 1));
        same(what + ": undo", belt.undo(), Math.min(6, saved + 1) - 1);
        if (saved < 6) {
            same(what + ": after undo", seen(belt), before);
        }
        call.run();
    }

    private static String seen(DictationBelt belt) {
        return belt.digest() + " " + belt.savedStates() + " " + belt.firstError();
    }
}
