/** Promises 8 to 20. */
final class QueryTests {
    private static final Class<?> INDEX = IndexOutOfBoundsException.class;

    private QueryTests() {
    }

    static void runAll() {
        promises8To10Counts();
        promise11Length();
        promises12And13Cells();
        promise13OrderOfWriting();
        promises14And15FlagAndLost();
        promise16Owner();
        promises17To19Sums();
        promise20UsedShare();
        queriesSaveNothing();
    }

    private static void promises8To10Counts() {
        DictationBelt belt = Belts.after("b;s1;b;s2;s3");
        Check.same("recordings()", belt.recordings(), 2);
        Check.same("running()", belt.running(), 1);
        Check.same("head()", belt.head(), 3);
        belt.halt();
        Check.same("recordings()", belt.recordings(), 2);
        Check.same("running()", belt.running(), -1);
        Check.same("recordings() of ten", Belts.ofTen().recordings(), 10);
        Check.same("running() of ten", Belts.ofTen().running(), 9);
    }

    private static void promise11Length() {
        DictationBelt belt = Belts.after("b;r5=1;b;s2;b");
        Check.same("length(0)", belt.length(0), 5);
        Check.same("length(1)", belt.length(1), 1);
        Check.same("length(2)", belt.length(2), 0);
        Check.refuses("length(3)", belt, INDEX, () -> belt.length(3));
        Check.refuses("length(-1)", belt, INDEX, () -> belt.length(-1));
        Check.refuses("length(max)", belt, INDEX, () -> belt.length(Integer.MAX_VALUE));
    }

    private static void promises12And13Cells() {
        DictationBelt belt = Belts.after("b;s10;b;s20;s30;h");
        Check.same("sound(1, 0)", belt.sound(1, 0), 20);
        Check.same("sound(1, 1)", belt.sound(1, 1), 30);
        Check.same("sound(1, 2)", belt.sound(1, 2), -1);
        Check.same("sound(1, max)", belt.sound(1, Integer.MAX_VALUE), -1);
        Check.same("cellOf(1, 0)", belt.cellOf(1, 0), 1);
        Check.same("cellOf(1, 1)", belt.cellOf(1, 1), 2);
        Check.same("cellOf(1, 2)", belt.cellOf(1, 2), -1);
        Check.same("cellOf(1, max)", belt.cellOf(1, Integer.MAX_VALUE), -1);
        Check.refuses("sound(2, 0)", belt, INDEX, () -> belt.sound(2, 0));
        Check.refuses("sound(-1, 0)", belt, INDEX, () -> belt.sound(-1, 0));
        Check.refuses("sound(0, -1)", belt, INDEX, () -> belt.sound(0, -1));
        Check.refuses("cellOf(2, 0)", belt, INDEX, () -> belt.cellOf(2, 0));
        Check.refuses("cellOf(-1, 0)", belt, INDEX, () -> belt.cellOf(-1, 0));
        Check.refuses("cellOf(0, -1)", belt, INDEX, () -> belt.cellOf(0, -1));
    }

    private static void promise13OrderOfWriting() {
        DictationBelt belt = Belts.after("b;s1;s2;s3;s4;h");
        belt.moveHead(30);
        Belts.run(belt, "b;s5;s6;s7");
        Check.same("cells round the belt", Belts.cells(belt, 1), "30 31 0");
        Check.same("cells of the loser", Belts.cells(belt, 0), "1 2 3");
        belt.halt();
        belt.moveHead(31);
        Belts.run(belt, "b;s8");
        Check.same("cells without a middle one", Belts.cells(belt, 1), "30 0");
        Check.same("sounds without a middle one", Belts.sounds(belt, 1), "5 7");
    }

    private static void promises14And15FlagAndLost() {
        DictationBelt belt = Belts.after("b;s1;s2;s3;b;s4;f1;h");
        Check.same("hasFlag(0)", belt.hasFlag(0), false);
        Check.same("hasFlag(1)", belt.hasFlag(1), true);
        Check.refuses("hasFlag(2)", belt, INDEX, () -> belt.hasFlag(2));
        Check.refuses("hasFlag(-1)", belt, INDEX, () -> belt.hasFlag(-1));
        belt.moveHead(1);
        Belts.run(belt, "b;s5;s6");
        Check.same("lost(0)", belt.lost(0), 2);
        Check.same("lost(1)", belt.lost(1), 0);
        Check.same("lost(2)", belt.lost(2), 0);
        Check.refuses("lost(3)", belt, INDEX, () -> belt.lost(3));
        Check.refuses("lost(-1)", belt, INDEX, () -> belt.lost(-1));
        belt.erase(0);
        Check.same("lost(0), of the one behind", belt.lost(0), 0);
        lostGoesWithItsRecording();
    }

    private static void lostGoesWithItsRecording() {
        DictationBelt belt = Belts.after("b;s1;b;r3=2;b;r4=3;b;r5=4;h");
        belt.moveHead(1);
        Belts.run(belt, "b;r1=5;h");
        belt.moveHead(4);
        Belts.run(belt, "b;r2=5;h");
        belt.moveHead(8);
        Belts.run(belt, "b;r3=5;h");
        belt.erase(0);
        Check.same("lost(0)", belt.lost(0), 1);
        Check.same("lost(1)", belt.lost(1), 2);
        Check.same("lost(2)", belt.lost(2), 3);
        Check.same("lost(3)", belt.lost(3), 0);
        belt.moveHead(2);
        Belts.run(belt, "b;r2=6");
        Check.same("lost(0) behind one that is gone", belt.lost(0), 2);
        Check.same("lost(1) behind one that is gone", belt.lost(1), 3);
        belt.undo();
        Check.same("lost(0) after undo()", belt.lost(0), 1);
        Check.same("lost(2) after undo()", belt.lost(2), 3);
    }

    private static void promise16Owner() {
        DictationBelt belt = Belts.after("b;s1;b;s2;s3");
        Check.same("owner(0)", belt.owner(0), 0);
        Check.same("owner(2)", belt.owner(2), 1);
        Check.same("owner(3)", belt.owner(3), -1);
        Check.same("owner(31)", belt.owner(31), -1);
        Check.refuses("owner(32)", belt, INDEX, () -> belt.owner(32));
        Check.refuses("owner(-1)", belt, INDEX, () -> belt.owner(-1));
    }

    private static void promises17To19Sums() {
        DictationBelt belt = Belts.after("b;s1;s2;b;s3;h");
        Check.same("free()", belt.free(), 29);
        Check.same("spoken()", belt.spoken(), 3);
        belt.moveHead(0);
        Belts.run(belt, "b;r3=7");
        Check.same("free() after losses", belt.free(), 29);
        Check.same("spoken() after losses", belt.spoken(), 6);
        Check.same("gone() after losses", belt.gone(), 2);
        belt.erase(0);
        Check.same("free() after erase()", belt.free(), 32);
        Check.same("spoken() after erase()", belt.spoken(), 6);
        Check.same("gone() after erase()", belt.gone(), 2);
        belt.undo();
        belt.undo();
        Check.same("spoken() after undo()", belt.spoken(), 3);
        Check.same("gone() after undo()", belt.gone(), 0);
    }

    private static void promise20UsedShare() {
        DictationBelt belt = new DictationBelt();
        Check.same("usedShare()", belt.usedShare(), 0.0);
        Belts.run(belt, "b;s1");
        Check.same("usedShare() of a cell", belt.usedShare(), 0.03125);
        Belts.run(belt, "r15=1");
        Check.same("usedShare() of a half", belt.usedShare(), 0.5);
        Belts.run(belt, "r16=1");
        Check.same("usedShare() of all", belt.usedShare(), 1.0);
    }

    private static void queriesSaveNothing() {
        DictationBelt belt = Belts.after("b;s1;g0");
        int saved = belt.savedStates();
        long digest = belt.digest();
        belt.recordings();
        belt.running();
        belt.head();
        belt.length(0);
        belt.sound(0, 0);
        belt.cellOf(0, 0);
        belt.hasFlag(0);
        belt.lost(0);
        belt.owner(0);
        belt.free();
        belt.spoken();
        belt.gone();
        belt.usedShare();
        belt.playing();
        belt.place();
        belt.carbon(0, 0);
        belt.corrected();
        Check.same("savedStates() after queries", belt.savedStates(), saved);
        Check.same("digest() after queries", belt.digest(), digest);
    }
}
