/** Promises 1 to 7. */
final class RecordingTests {
    private RecordingTests() {
    }

    static void runAll() {
        promise1NewObject();
        promise2Begin();
        promise2BeginEndsARunningOne();
        promise2BeginWithTen();
        promise2BeginStartsAnew();
        promise3Halt();
        promise3HaltOfAnEmptyOne();
        promise4Speak();
        promise4SpeakTakesTheOldest();
        promise4SpeakJumpsOverFlags();
        promise4SpeakThrows();
        promise4SpeakOnAFullBelt();
        promise5SetFlag();
        promise6Erase();
        promise6EraseTheRunningOne();
        promise7MoveHead();
    }

    private static void promise1NewObject() {
        DictationBelt belt = new DictationBelt();
        Check.same("recordings()", belt.recordings(), 0);
        Check.same("running()", belt.running(), -1);
        Check.same("head()", belt.head(), 0);
        Check.same("free()", belt.free(), 32);
        Check.same("spoken()", belt.spoken(), 0);
        Check.same("gone()", belt.gone(), 0);
        Check.same("playing()", belt.playing(), -1);
        Check.same("place()", belt.place(), -1);
        Check.same("corrected()", belt.corrected(), 0);
        Check.same("room()", belt.room(), 32);
        Check.same("nextLoser()", belt.nextLoser(), -1);
        Check.same("savedStates()", belt.savedStates(), 0);
        Check.same("clearText()", belt.clearText(), 0);
        for (int cell = 0; cell < 32; cell++) {
            Check.same("owner()", belt.owner(cell), -1);
        }
        Belts.run(new DictationBelt(), "b;s1");
        Check.same("another object's recordings()", new DictationBelt().recordings(), 0);
    }

    private static void promise2Begin() {
        DictationBelt belt = new DictationBelt();
        Check.isUndoable("begin()", belt, belt::begin);
        Check.same("running()", belt.running(), 0);
        Check.same("length(0)", belt.length(0), 0);
        Check.same("hasFlag(0)", belt.hasFlag(0), false);
        belt.speak(1);
        Check.same("begin()", belt.begin(), 1);
        Check.same("running()", belt.running(), 1);
        Check.same("recordings()", belt.recordings(), 2);
        belt.speak(2);
        belt.halt();
        Check.same("begin() after halt()", belt.begin(), 2);
    }

    private static void promise2BeginEndsARunningOne() {
        DictationBelt belt = Belts.after("b;s1;b;f1;g1");
        Check.same("begin() behind an empty one", belt.begin(), 1);
        Check.same("recordings()", belt.recordings(), 2);
        Check.same("the new one's flag", belt.hasFlag(1), false);
        Check.same("the new one's lost()", belt.lost(1), 0);
        Check.same("playing() at the one that went away", belt.playing(), -1);
        Check.same("place() at the one that went away", belt.place(), -1);
        Check.same("gone()", belt.gone(), 0);
        belt = Belts.after("b;s1;g0;p");
        belt.begin();
        Check.same("playing() at the one that stopped", belt.playing(), 0);
        Check.same("place() at the one that stopped", belt.place(), 1);
    }

    private static void promise2BeginWithTen() {
        DictationBelt belt = Belts.ofTen();
        Check.refuses("begin() with ten", belt, IllegalStateException.class, belt::begin);
        belt.halt();
        Check.refuses("begin() with ten stopped", belt, IllegalStateException.class, belt::begin);
        belt.erase(3);
        Check.same("begin() as the tenth", belt.begin(), 9);
        Check.same("begin() as the tenth again", belt.begin(), 9);
        Check.same("recordings()", belt.recordings(), 10);
        Check.same("the new one's flag", belt.hasFlag(9), false);
    }

    private static void promise2BeginStartsAnew() {
        DictationBelt belt = Belts.after("b;s1;b;s2;s3;s4;h");
        belt.moveHead(1);
        Belts.run(belt, "b;s5;s6");
        Check.same("lost(1)", belt.lost(1), 2);
        belt.erase(2);
        belt.erase(1);
        Check.same("begin() where one was erased", belt.begin(), 1);
        Check.same("lost() of the new one", belt.lost(1), 0);
        DictationBelt full = Belts.after("b;r32=1;h");
        Check.same("begin() on a full belt", full.begin(), 1);
        Check.same("recordings()", full.recordings(), 2);
        Check.same("running()", full.running(), 1);
    }

    private static void promise3Halt() {
        DictationBelt belt = Belts.after("b;s1;s2;s3");
        Check.isUndoable("halt()", belt, belt::halt);
        Check.same("running()", belt.running(), -1);
        Check.same("recordings()", belt.recordings(), 1);
        Check.refuses("halt() twice", belt, IllegalStateException.class, belt::halt);
        belt.undo();
        Check.same("halt()", belt.halt(), 3);
        DictationBelt fresh = new DictationBelt();
        Check.refuses("halt() at first", fresh, IllegalStateException.class, fresh::halt);
    }

    private static void promise3HaltOfAnEmptyOne() {
        DictationBelt belt = Belts.after("b;s1;b;f1;g1");
        Check.same("halt() of an empty one", belt.halt(), 0);
        Check.same("recordings()", belt.recordings(), 1);
        Check.same("running()", belt.running(), -1);
        Check.same("playing()", belt.playing(), -1);
        Check.same("gone()", belt.gone(), 0);
    }

    private static void promise4Speak() {
        DictationBelt belt = Belts.after("b");
        Check.same("speak(0)", belt.speak(0), 0);
        Check.same("speak(99)", belt.speak(99), 1);
        Check.same("sounds", Belts.sounds(belt, 0), "0 99");
        Check.same("head()", belt.head(), 2);
        Check.isUndoable("speak(5)", belt, () -> belt.speak(5));
        Check.same("spoken()", belt.spoken(), 3);
        belt.halt();
        belt.moveHead(31);
        belt.begin();
        Check.same("speak(7) on the last cell", belt.speak(7), 31);
        Check.same("head() round the belt", belt.head(), 0);
        Check.same("speak(8) round the belt", belt.speak(8), 0);
        Check.same("the loser's sounds", Belts.sounds(belt, 0), "99 5");
        Check.same("cells in the order of writing", Belts.cells(belt, 1), "31 0");
    }

    private static void promise4SpeakTakesTheOldest() {
        DictationBelt belt = Belts.after("b;s1;s2;b;s3;h");
        belt.moveHead(0);
        Belts.run(belt, "b;s4");
        Check.same("lost(0)", belt.lost(0), 1);
        Check.same("length(0)", belt.length(0), 1);
        Check.same("speak() over a last cell", belt.speak(5), 1);
        Check.same("gone()", belt.gone(), 1);
        Check.same("recordings()", belt.recordings(), 2);
        Check.same("running()", belt.running(), 1);
        Check.same("lost(0), of the one behind", belt.lost(0), 0);
        Check.same("owner(0)", belt.owner(0), 1);
        Check.same("owner(2)", belt.owner(2), 0);
        Check.same("sounds", Belts.sounds(belt, 1), "4 5");
    }

    private static void promise4SpeakJumpsOverFlags() {
        DictationBelt belt = Belts.after("b;s1;b;s2;s3;f1;b;s4;h");
        belt.moveHead(0);
        belt.begin();
        Check.same("speak() over an unflagged one", belt.speak(5), 0);
        Check.same("speak() behind a flagged one", belt.speak(6), 3);
        Check.same("the flagged one's sounds", Belts.sounds(belt, 0), "2 3");
        Check.same("the flag goes with its recording", belt.hasFlag(0), true);
        Check.same("the running one's flag", belt.hasFlag(1), false);
        belt.setFlag(0, false);
        belt.halt();
        belt.moveHead(1);
        belt.begin();
        Check.same("speak() where a flag was", belt.speak(7), 1);
    }

    private static void promise4SpeakThrows() {
        DictationBelt belt = new DictationBelt();
        Class<?> range = IllegalArgumentException.class;
        Class<?> state = IllegalStateException.class;
        Check.refuses("speak(-1), none running", belt, range, () -> belt.speak(-1));
        Check.refuses("speak(100), none running", belt, range, () -> belt.speak(100));
        Check.refuses("speak(0), none running", belt, state, () -> belt.speak(0));
        belt.begin();
        Check.refuses("speak(-1)", belt, range, () -> belt.speak(-1));
        Check.refuses("speak(100)", belt, range, () -> belt.speak(100));
        Check.refuses("speak(min)", belt, range, () -> belt.speak(Integer.MIN_VALUE));
        Check.refuses("speak(max)", belt, range, () -> belt.speak(Integer.MAX_VALUE));
    }

    private static void promise4SpeakOnAFullBelt() {
        DictationBelt belt = Belts.after("b;r31=1");
        Check.same("speak(1) on the last writable cell", belt.speak(1), 31);
        Check.same("head()", belt.head(), 0);
        Class<?> state = IllegalStateException.class;
        Check.refuses("speak(1), full by itself", belt, state, () -> belt.speak(1));
        Check.refuses("speak(100), full", belt, IllegalArgumentException.class,
                () -> belt.speak(100));
        belt.setFlag(0, true);
        belt.begin();
        Check.refuses("speak(1), full by a flag", belt, state, () -> belt.speak(1));
        belt.setFlag(0, false);
        Check.same("speak(1) without the flag", belt.speak(1), 0);
    }

    private static void promise5SetFlag() {
        DictationBelt belt = Belts.after("b;s1;b;s2");
        Check.isUndoable("setFlag(0, true)", belt, () -> belt.setFlag(0, true));
        Check.same("hasFlag(0)", belt.hasFlag(0), true);
        Check.same("hasFlag(1)", belt.hasFlag(1), false);
        Check.same("setFlag(0, true) again", belt.setFlag(0, true), true);
        Check.isUndoable("setFlag() without a change", belt, () -> belt.setFlag(0, true));
        Check.same("setFlag(0, false)", belt.setFlag(0, false), true);
        Check.same("hasFlag(0)", belt.hasFlag(0), false);
        Check.same("setFlag(0, false) again", belt.setFlag(0, false), false);
        Check.same("setFlag() of the running one", belt.setFlag(1, true), false);
        Check.same("speak() with a flag", belt.speak(3), 2);
        Class<?> index = IndexOutOfBoundsException.class;
        Check.refuses("setFlag(2, true)", belt, index, () -> belt.setFlag(2, true));
        Check.refuses("setFlag(-1, false)", belt, index, () -> belt.setFlag(-1, false));
    }

    private static void promise6Erase() {
        DictationBelt belt = Belts.after("b;s1;s2;b;s3;f1;b;s4;h;g2;p");
        Class<?> index = IndexOutOfBoundsException.class;
        Check.refuses("erase(3)", belt, index, () -> belt.erase(3));
        Check.refuses("erase(-1)", belt, index, () -> belt.erase(-1));
        Check.refuses("erase(1), flagged", belt, IllegalStateException.class,
                () -> belt.erase(1));
        Check.isUndoable("erase(0)", belt, () -> belt.erase(0));
        belt.undo();
        Check.same("erase(0)", belt.erase(0), 2);
        Check.same("recordings()", belt.recordings(), 2);
        Check.same("free()", belt.free(), 30);
        Check.same("owner(0)", belt.owner(0), -1);
        Check.same("owner(2)", belt.owner(2), 0);
        Check.same("owner(3)", belt.owner(3), 1);
        Check.same("hasFlag(0)", belt.hasFlag(0), true);
        Check.same("hasFlag(1)", belt.hasFlag(1), false);
        Check.same("playing()", belt.playing(), 1);
        Check.same("place()", belt.place(), 1);
        Check.same("gone()", belt.gone(), 0);
        Check.same("head()", belt.head(), 4);
        Check.same("erase(1)", belt.erase(1), 1);
        Check.same("playing() at an erased one", belt.playing(), -1);
        Check.same("place() at an erased one", belt.place(), -1);
    }

    private static void promise6EraseTheRunningOne() {
        DictationBelt belt = Belts.after("b;s1;b;s2;s3");
        Check.same("erase(0), before the running one", belt.erase(0), 1);
        Check.same("running()", belt.running(), 0);
        Check.same("erase(0), the running one", belt.erase(0), 2);
        Check.same("running()", belt.running(), -1);
        Check.same("recordings()", belt.recordings(), 0);
        belt.begin();
        Check.same("erase(0), without cells", belt.erase(0), 0);
        Check.same("running()", belt.running(), -1);
        belt = Belts.after("b;s1;b;s2;s3");
        Check.same("erase(1), the running one of two", belt.erase(1), 2);
        Check.same("running()", belt.running(), -1);
        Check.same("recordings()", belt.recordings(), 1);
        Check.same("moveHead() with none running", belt.moveHead(7), 3);
        DictationBelt flagged = Belts.after("b;f0");
        Check.refuses("erase(0), running with a flag", flagged, IllegalStateException.class,
                () -> flagged.erase(0));
    }

    private static void promise7MoveHead() {
        DictationBelt belt = new DictationBelt();
        Check.same("moveHead(31)", belt.moveHead(31), 0);
        Check.same("head()", belt.head(), 31);
        Check.isUndoable("moveHead(0)", belt, () -> belt.moveHead(0));
        Check.same("moveHead(5)", belt.moveHead(5), 0);
        Class<?> index = IndexOutOfBoundsException.class;
        Check.refuses("moveHead(-1)", belt, index, () -> belt.moveHead(-1));
        Check.refuses("moveHead(32)", belt, index, () -> belt.moveHead(32));
        belt.begin();
        Check.refuses("moveHead(32), running", belt, index, () -> belt.moveHead(32));
        Check.refuses("moveHead(5), running", belt, IllegalStateException.class,
                () -> belt.moveHead(5));
        Check.same("speak() on the moved head", belt.speak(1), 5);
    }
}
