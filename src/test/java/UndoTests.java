/** Promises 37 to 39. */
final class UndoTests {
    private UndoTests() {
    }

    static void runAll() {
        promise37Undo();
        promise37UndoRestoresEverything();
        promise37UndoLeavesTheBuffer();
        promise38SavedStates();
        promise39DigestOfANewObject();
        promise39Digest();
    }

    private static void promise37Undo() {
        DictationBelt belt = new DictationBelt();
        Check.refuses("undo() at first", belt, IllegalStateException.class, belt::undo);
        belt.begin();
        belt.speak(1);
        belt.speak(2);
        Check.same("undo()", belt.undo(), 2);
        Check.same("length(0)", belt.length(0), 1);
        Check.same("undo()", belt.undo(), 1);
        Check.same("length(0)", belt.length(0), 0);
        belt.speak(3);
        Check.same("undo() after a new call", belt.undo(), 1);
        Check.same("undo()", belt.undo(), 0);
        Check.same("recordings()", belt.recordings(), 0);
        Check.refuses("undo() at the end", belt, IllegalStateException.class, belt::undo);
    }

    private static void promise37UndoRestoresEverything() {
        DictationBelt belt = Belts.after("b;s1;s2;b;s3;s4;f1;b;s5;h;g0;p");
        belt.correct(0, 1, 9);
        belt.moveHead(0);
        long before = belt.digest();
        Belts.run(belt, "b;s6;s7;u0;s8;g0;p;p");
        belt.erase(0);
        belt.undo();
        belt.undo();
        Check.same("digest() after undo()", belt.digest(), before);
        Check.same("sounds after undo()", Belts.sounds(belt, 0), "1 9");
        Check.same("carbon() after undo()", belt.carbon(0, 1), 2);
        Check.same("hasFlag(1) after undo()", belt.hasFlag(1), true);
        Check.same("playing() after undo()", belt.playing(), 0);
        Check.same("place() after undo()", belt.place(), 1);
        Check.same("spoken() after undo()", belt.spoken(), 5);
        Check.same("gone() after undo()", belt.gone(), 0);
        Check.same("running() after undo()", belt.running(), -1);
    }

    private static void promise37UndoLeavesTheBuffer() {
        DictationBelt belt = new DictationBelt();
        belt.begin();
        Belts.write(belt, "s1;s");
        belt.undo();
        Check.same("firstError() after undo()", belt.firstError(), 4);
        Check.same("clearText() after undo()", belt.clearText(), 4);
    }

    private static void promise38SavedStates() {
        for (int calls = 0; calls <= 31; calls++) {
            savedStatesAfter(calls);
        }
    }

    private static void savedStatesAfter(int calls) {
        DictationBelt belt = new DictationBelt();
        for (int call = 1; call <= calls; call++) {
            belt.moveHead(call);
            Check.same("savedStates()", belt.savedStates(), Math.min(call, 6));
        }
        int kept = Math.min(calls, 6);
        for (int left = kept - 1; left >= 0; left--) {
            Check.same("undo()", belt.undo(), left);
            Check.same("head() after undo()", belt.head(), calls - kept + left);
            Check.same("savedStates()", belt.savedStates(), left);
        }
        Check.refuses("undo() of a discarded one", belt, IllegalStateException.class, belt::undo);
        belt.moveHead(belt.head());
        Check.same("savedStates() without a change", belt.savedStates(), 1);
    }

    private static void promise39DigestOfANewObject() {
        long due = 4444;
        int[] values = {0, -1, 0, 32, 0, 0, -1, -1, 0, 32, -1};
        for (int value : values) {
            due = 31 * due + value;
        }
        for (int cell = 0; cell < 32; cell++) {
            due = 31 * due - 1;
        }
        Check.same("digest() of a new object", new DictationBelt().digest(), due);
    }

    private static void promise39Digest() {
        DictationBelt belt = new DictationBelt();
        belt.moveHead(31);
        Belts.run(belt, "b;s1;s2;s3;f0;b;s4;s5;g1;p;h");
        belt.moveHead(2);
        Belts.run(belt, "b;s6");
        belt.setFlag(0, false);
        belt.correct(0, 2, 30);
        belt.setFlag(0, true);
        int[] values = {3, 2, 3, 27, 6, 0, 1, 0, 1, 28, 1,
            3, 1, 0, 31, 1, 1, 0, 2, 2, 1, 30, 3,
            1, 0, 1, 3, 5, 5,
            1, 0, 0, 2, 6, 6,
            0, 0, 2, 1};
        long due = 4444;
        for (int value : values) {
            due = 31 * due + value;
        }
        for (int cell = 4; cell < 31; cell++) {
            due = 31 * due - 1;
        }
        due = 31 * due;
        Check.same("digest()", belt.digest(), due);
    }
}
