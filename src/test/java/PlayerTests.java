/** Promises 21 to 25. */
final class PlayerTests {
    private PlayerTests() {
    }

    static void runAll() {
        promise21Go();
        promise22Play();
        promise22PlayWhatIsBeingSpoken();
        promise23Back();
        promises24And25NumbersChange();
        promise25LossesBeforeThePlace();
        promise25LossesBehindThePlace();
        promise24LastCellLost();
    }

    private static void promise21Go() {
        DictationBelt belt = Belts.after("b;s1;s2;b;s3;g1;p");
        Check.isUndoable("go(0)", belt, () -> belt.go(0));
        Check.same("playing()", belt.playing(), 0);
        Check.same("place()", belt.place(), 0);
        Check.same("go(0)", belt.go(0), 2);
        Check.same("go(1)", belt.go(1), 1);
        Class<?> index = IndexOutOfBoundsException.class;
        Check.refuses("go(2)", belt, index, () -> belt.go(2));
        Check.refuses("go(-1)", belt, index, () -> belt.go(-1));
        belt.begin();
        Check.same("go() of an empty one", belt.go(2), 0);
        Check.same("play() of an empty one", belt.play(), -1);
    }

    private static void promise22Play() {
        DictationBelt belt = Belts.after("b;s11;s12;h");
        Class<?> state = IllegalStateException.class;
        Check.refuses("play(), nowhere", belt, state, belt::play);
        belt.go(0);
        Check.same("play()", belt.play(), 11);
        Check.same("place()", belt.place(), 1);
        Check.isUndoable("play()", belt, belt::play);
        Check.same("place()", belt.place(), 2);
        Check.isUndoable("play() at the end", belt, belt::play);
        Check.same("play() at the end", belt.play(), -1);
        Check.same("place() at the end", belt.place(), 2);
        belt.correct(0, 0, 13);
        belt.go(0);
        Check.same("play() of a corrected cell", belt.play(), 13);
    }

    private static void promise22PlayWhatIsBeingSpoken() {
        DictationBelt belt = Belts.after("b;s1;g0;p");
        Check.same("play() at the end", belt.play(), -1);
        belt.speak(2);
        Check.same("place()", belt.place(), 1);
        Check.same("play() of a new cell", belt.play(), 2);
    }

    private static void promise23Back() {
        DictationBelt belt = Belts.after("b;r12=1;h");
        Class<?> range = IllegalArgumentException.class;
        Check.refuses("back(0), nowhere", belt, range, () -> belt.back(0));
        Check.refuses("back(10), nowhere", belt, range, () -> belt.back(10));
        Check.refuses("back(1), nowhere", belt, IllegalStateException.class, () -> belt.back(1));
        Belts.run(belt, "g0;p;p;p;p;p;p;p;p;p;p;p;p");
        Check.refuses("back(0)", belt, range, () -> belt.back(0));
        Check.refuses("back(10)", belt, range, () -> belt.back(10));
        Check.refuses("back(min)", belt, range, () -> belt.back(Integer.MIN_VALUE));
        Check.same("back(9)", belt.back(9), 3);
        Check.isUndoable("back(1)", belt, () -> belt.back(1));
        Check.same("place()", belt.place(), 2);
        Check.same("back(9) at the beginning", belt.back(9), 0);
        Check.same("place() at the beginning", belt.place(), 0);
        Check.isUndoable("back() without a change", belt, () -> belt.back(9));
    }

    private static void promises24And25NumbersChange() {
        DictationBelt belt = Belts.after("b;s1;b;s2;b;s3;s4;h;g2;p");
        belt.erase(0);
        Check.same("playing() behind an erased one", belt.playing(), 1);
        Check.same("place() behind an erased one", belt.place(), 1);
        belt.moveHead(1);
        Belts.run(belt, "b;s5");
        Check.same("playing() behind one that is gone", belt.playing(), 0);
        Check.same("place() behind one that is gone", belt.place(), 1);
        Check.same("play() goes on", belt.play(), 4);
        belt.erase(1);
        Check.same("playing() before an erased one", belt.playing(), 0);
        Check.same("place() before an erased one", belt.place(), 2);
    }

    private static void promise25LossesBeforeThePlace() {
        DictationBelt belt = Belts.after("b;s1;s2;s3;s4;h;g0;p;p");
        belt.moveHead(1);
        Belts.run(belt, "b;s5");
        Check.same("place() after a loss before it", belt.place(), 1);
        Check.same("play() of the same sound", belt.play(), 3);
        belt.halt();
        belt.moveHead(0);
        belt.begin();
        belt.speak(6);
        Check.same("place() after one more", belt.place(), 1);
        Check.same("play() of the last", belt.play(), 4);
    }

    private static void promise25LossesBehindThePlace() {
        DictationBelt belt = Belts.after("b;s1;s2;s3;s4;h;g0;p");
        belt.moveHead(1);
        Belts.run(belt, "b;s5");
        Check.same("place() after the loss of the next", belt.place(), 1);
        Check.same("play() of the one behind", belt.play(), 3);
        belt.halt();
        belt.moveHead(3);
        Belts.run(belt, "b;s6");
        Check.same("place() after a loss behind it", belt.place(), 2);
        Check.same("play() at the end", belt.play(), -1);
        // The place counts cells in the order of writing, not in the order on the belt.
        DictationBelt turned = new DictationBelt();
        turned.moveHead(31);
        Belts.run(turned, "b;s1;s2;s3;h;g0;p");
        turned.moveHead(0);
        Belts.run(turned, "b;s4");
        Check.same("place() before a lower cell", turned.place(), 1);
        Check.same("play() behind a lower cell", turned.play(), 3);
    }

    private static void promise24LastCellLost() {
        DictationBelt belt = Belts.after("b;s1;b;s2;h;g0;p");
        belt.moveHead(0);
        Belts.run(belt, "b;s3");
        Check.same("playing() at one that is gone", belt.playing(), -1);
        Check.same("place() at one that is gone", belt.place(), -1);
        Check.refuses("play() at one that is gone", belt, IllegalStateException.class,
                belt::play);
    }
}
