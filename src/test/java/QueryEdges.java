import java.util.function.BiConsumer;

/** The boundaries that the document names under the promises 8 to 20. */
final class QueryEdges {
    private static final int[] NO_CELLS = {-1, 32, 33, Edge.MIN, Edge.MAX};
    private static final int[] NO_RECORDINGS = {-1, 2, 9, 10, 31, Edge.MIN, Edge.MAX};

    private QueryEdges() {
    }

    static void runAll() {
        Edge.test("8: Returns the number of recordings.", QueryEdges::recordings);
        Edge.test("9: Returns the number of the running recording; NONE if none is running.",
                QueryEdges::running);
        Edge.test("10: Returns the cell of the head.", QueryEdges::head);
        Edge.test("11: Returns the number of cells.", QueryEdges::length);
        Edge.test("11: Throws `IndexOutOfBoundsException` if there is no such recording",
                () -> refusesNoRecording("length", DictationBelt::length));
        Edge.test("12: Returns the sound; NONE if it has not so many cells.", QueryEdges::sound);
        Edge.test("12: Throws `IndexOutOfBoundsException` if there is no such recording, or place"
                + " is negative", QueryEdges::soundOfNone);
        Edge.test("13: Returns the number of the cell on the belt; NONE if it has not so many"
                + " cells.", QueryEdges::cellOf);
        Edge.test("13: Throws `IndexOutOfBoundsException` if there is no such recording, or place"
                + " is negative", QueryEdges::cellOfNone);
        Edge.test("14: Returns true if it has.", QueryEdges::hasFlag);
        Edge.test("14: Throws `IndexOutOfBoundsException` if there is no such recording",
                () -> refusesNoRecording("hasFlag", DictationBelt::hasFlag));
        Edge.test("15: Returns the number of cells that it lost so far.", QueryEdges::lost);
        Edge.test("15: Throws `IndexOutOfBoundsException` if there is no such recording",
                () -> refusesNoRecording("lost", DictationBelt::lost));
        Edge.test("16: Returns the number of the recording; NONE if the cell is free.",
                QueryEdges::owner);
        Edge.test("16: Throws `IndexOutOfBoundsException` if there is no such cell",
                QueryEdges::ownerOfNoCell);
        Edge.test("17: Returns the number of free cells.", QueryEdges::free);
        Edge.test("18: Returns the number of sounds that were spoken so far.", QueryEdges::spoken);
        Edge.test("19: Returns the number of recordings that went away so far because they had"
                + " lost their last cell.", QueryEdges::gone);
        Edge.test("20: Returns the share of cells that are not free: their number, as a double,"
                + " divided by 32.", QueryEdges::usedShare);
    }

    private static void refusesNoRecording(String name, BiConsumer<DictationBelt, Integer> call) {
        Edge.refuses(name + "(0) on a new belt", Edge.INDEX, DictationBelt::new,
                belt -> call.accept(belt, 0));
        for (int number : NO_RECORDINGS) {
            Edge.refuses(name + "(" + number + ") of two", Edge.INDEX,
                    () -> Belts.after("b;s1;b;s2"), belt -> call.accept(belt, number));
        }
        Edge.refuses(name + "(10) of ten", Edge.INDEX, Belts::ofTen,
                belt -> call.accept(belt, 10));
        Edge.refuses(name + "(0) of one that stopped without cells", Edge.INDEX,
                () -> Belts.after("b;h"), belt -> call.accept(belt, 0));
        DictationBelt ten = Belts.ofTen();
        int saved = ten.savedStates();
        long digest = ten.digest();
        call.accept(ten, 9);
        call.accept(ten, 0);
        Check.same(name + ": savedStates()", ten.savedStates(), saved);
        Check.same(name + ": digest()", ten.digest(), digest);
    }

    private static void recordings() {
        DictationBelt belt = new DictationBelt();
        Check.same("recordings() at first", belt.recordings(), 0);
        belt.begin();
        Check.same("recordings(), one without cells", belt.recordings(), 1);
        belt.halt();
        Check.same("recordings(), it has stopped", belt.recordings(), 0);
        DictationBelt ten = Belts.ofTen();
        for (int left = 9; left >= 0; left--) {
            ten.erase(left / 2);
            Check.same("recordings() after erase()", ten.recordings(), left);
        }
    }

    private static void running() {
        Check.same("running() at first", new DictationBelt().running(), -1);
        Check.same("running() without cells", Belts.after("b").running(), 0);
        Check.same("running() after h", Belts.after("b;s1;h").running(), -1);
        Check.same("running() of three", Belts.after("b;s1;b;s2;b").running(), 2);
        Check.same("running() of ten", Belts.ofTen().running(), 9);
        Check.same("running() after e", Belts.after("b;s1;b;s2;e1").running(), -1);
        Check.same("running() after e of an other", Belts.after("b;s1;b;s2;e0").running(), 0);
        DictationBelt undone = Belts.after("b;s1", "h");
        undone.undo();
        Check.same("running() after undo() of h", undone.running(), 0);
    }

    private static void head() {
        Check.same("head() at first", new DictationBelt().head(), 0);
        Check.same("head() after r31", Belts.after("b;r31=1").head(), 31);
        Check.same("head() after r32", Belts.after("b;r32=1").head(), 0);
        Check.same("head() after a jump", Belts.after("b;r5=1;f0;h", "@0", "b;s2").head(), 6);
        Check.same("head() after a jump over the end",
                Belts.after("@30", "b;r2=1;f0;h", "@30", "b;s2").head(), 1);
        Check.same("head() after h", Belts.after("b;s1;h").head(), 1);
        Check.same("head() after e", Belts.after("b;s1;e0").head(), 1);
    }

    private static void length() {
        Check.same("length() without cells", Belts.after("b").length(0), 0);
        Check.same("length() of one", Belts.after("b;s1").length(0), 1);
        Check.same("length() of 32", Belts.after("b;r32=1").length(0), 32);
        Check.same("length() after losses", Belts.after("b;r5=1;h", "@1", "b;r3=2").length(0), 2);
        Check.same("length(9) of ten", Belts.ofTen().length(9), 1);
    }

    private static void sound() {
        DictationBelt belt = Belts.after("b;s10;s20;b;s30;b");
        Check.same("sound(0, 0)", belt.sound(0, 0), 10);
        Check.same("sound(0, 1)", belt.sound(0, 1), 20);
        Check.same("sound(0, 2)", belt.sound(0, 2), -1);
        Check.same("sound(0, max)", belt.sound(0, Edge.MAX), -1);
        Check.same("sound(1, 1)", belt.sound(1, 1), -1);
        Check.same("sound(2, 0), no cells", belt.sound(2, 0), -1);
        DictationBelt whole = Belts.after("b;r31=1;s2");
        Check.same("sound(0, 31)", whole.sound(0, 31), 2);
        Check.same("sound(0, 32)", whole.sound(0, 32), -1);
        DictationBelt loser = Belts.after("b;s10;s20;s30;h", "@0", "b;s40");
        Check.same("sound(0, 0) after a loss", loser.sound(0, 0), 20);
        Check.same("sound(0, 2) after a loss", loser.sound(0, 2), -1);
        loser.correct(0, 0, 50);
        Check.same("sound(0, 0) after correct()", loser.sound(0, 0), 50);
    }

    private static void soundOfNone() {
        refusesNoRecording("sound", (belt, number) -> belt.sound(number, 0));
        for (int place : new int[] {-1, -2, Edge.MIN}) {
            Edge.refuses("sound(0, " + place + ")", Edge.INDEX, () -> Belts.after("b;s1;s2"),
                    belt -> belt.sound(0, place));
            Edge.refuses("sound(0, " + place + "), no cells", Edge.INDEX, () -> Belts.after("b"),
                    belt -> belt.sound(0, place));
        }
    }

    private static void cellOf() {
        DictationBelt belt = Belts.after("@31", "b;s10;s20;b;s30;b");
        Check.same("cellOf(0, 0)", belt.cellOf(0, 0), 31);
        Check.same("cellOf(0, 1)", belt.cellOf(0, 1), 0);
        Check.same("cellOf(0, 2)", belt.cellOf(0, 2), -1);
        Check.same("cellOf(0, max)", belt.cellOf(0, Edge.MAX), -1);
        Check.same("cellOf(1, 0)", belt.cellOf(1, 0), 1);
        Check.same("cellOf(1, 1)", belt.cellOf(1, 1), -1);
        Check.same("cellOf(2, 0), no cells", belt.cellOf(2, 0), -1);
        DictationBelt whole = Belts.after("b;r32=1");
        Check.same("cellOf(0, 31)", whole.cellOf(0, 31), 31);
        Check.same("cellOf(0, 32)", whole.cellOf(0, 32), -1);
    }

    private static void cellOfNone() {
        refusesNoRecording("cellOf", (belt, number) -> belt.cellOf(number, 0));
        for (int place : new int[] {-1, -2, Edge.MIN}) {
            Edge.refuses("cellOf(0, " + place + ")", Edge.INDEX, () -> Belts.after("b;s1;s2"),
                    belt -> belt.cellOf(0, place));
            Edge.refuses("cellOf(0, " + place + "), no cells", Edge.INDEX, () -> Belts.after("b"),
                    belt -> belt.cellOf(0, place));
        }
    }

    private static void hasFlag() {
        DictationBelt belt = Belts.after("b;s1;b;s2;b;s3;f1");
        Check.same("hasFlag(0)", belt.hasFlag(0), false);
        Check.same("hasFlag(1)", belt.hasFlag(1), true);
        Check.same("hasFlag(2)", belt.hasFlag(2), false);
        belt.erase(0);
        Check.same("hasFlag(0), of the one behind", belt.hasFlag(0), true);
        Check.same("hasFlag(1), of the one behind", belt.hasFlag(1), false);
        belt.setFlag(0, false);
        Check.same("hasFlag(0), taken away", belt.hasFlag(0), false);
    }

    private static void lost() {
        DictationBelt belt = Belts.after("b;r32=1;b");
        for (int lost = 0; lost < 31; lost++) {
            Check.same("lost(0)", belt.lost(0), lost);
            Check.same("lost(1), of the running one", belt.lost(1), 0);
            belt.speak(2);
        }
        Check.same("lost(0) before its last cell", belt.lost(0), 31);
        belt.speak(2);
        Check.same("lost(0), of the one behind", belt.lost(0), 0);
        Check.same("lost() of one without cells", Belts.after("b").lost(0), 0);
        DictationBelt anew = Belts.after("b;s1;b;r2=2;h", "@1", "b;s3;h");
        Check.same("lost(1)", anew.lost(1), 1);
        anew.erase(2);
        anew.erase(1);
        anew.begin();
        Check.same("lost(1), of a new one", anew.lost(1), 0);
    }

    private static void owner() {
        DictationBelt belt = Belts.after("@31", "b;s1;b;s2;s3");
        Check.same("owner(31)", belt.owner(31), 0);
        Check.same("owner(0)", belt.owner(0), 1);
        Check.same("owner(1)", belt.owner(1), 1);
        Check.same("owner(2), free", belt.owner(2), -1);
        Check.same("owner(30), free", belt.owner(30), -1);
        belt.erase(0);
        Check.same("owner(31), freed", belt.owner(31), -1);
        Check.same("owner(0), of the one behind", belt.owner(0), 0);
        Check.same("owner(9) of ten", Belts.ofTen().owner(9), 9);
        DictationBelt loser = Belts.after("b;s1;b;s2;h", "@0", "b;s3");
        Check.same("owner(0) after a loss", loser.owner(0), 1);
        Check.same("owner(1) after a loss", loser.owner(1), 0);
    }

    private static void ownerOfNoCell() {
        for (int cell : NO_CELLS) {
            Edge.refuses("owner(" + cell + ")", Edge.INDEX, () -> Belts.after("b;s1"),
                    belt -> belt.owner(cell));
        }
    }

    private static void free() {
        Check.same("free() at first", new DictationBelt().free(), 32);
        Check.same("free() without cells", Belts.after("b").free(), 32);
        Check.same("free() of one", Belts.after("b;s1").free(), 31);
        Check.same("free() of 31", Belts.after("b;r31=1").free(), 1);
        Check.same("free() of 32", Belts.after("b;r32=1").free(), 0);
        Check.same("free() after losses", Belts.after("b;r32=1;b;r9=1").free(), 0);
        Check.same("free() after e", Belts.after("b;s1;b;r31=2;e1").free(), 31);
    }

    private static void spoken() {
        DictationBelt belt = Belts.after("b;r32=1;b;r32=2;b;r32=3");
        Check.same("spoken() over the whole belt", belt.spoken(), 96);
        belt.erase(0);
        Check.same("spoken() after erase()", belt.spoken(), 96);
        Check.same("spoken() at first", new DictationBelt().spoken(), 0);
        DictationBelt full = Belts.after("b;r31=1");
        Check.same("run() of too many", Belts.run(full, "r2=1"), 0);
        Check.same("spoken() after too many", full.spoken(), 31);
        full.correct(0, 0, 2);
        Check.same("spoken() after correct()", full.spoken(), 31);
        full.undo();
        full.undo();
        full.undo();
        Check.same("spoken() after undo()", full.spoken(), 0);
    }

    private static void gone() {
        DictationBelt belt = Belts.ofTen();
        belt.halt();
        belt.erase(9);
        Check.same("gone() after erase()", belt.gone(), 0);
        Belts.then(belt, "@0", "b");
        for (int gone = 1; gone <= 9; gone++) {
            belt.speak(1);
            Check.same("gone()", belt.gone(), gone);
        }
        belt.speak(1);
        Check.same("gone() on a free cell", belt.gone(), 9);
        Belts.then(belt, "b;h");
        Check.same("gone() after h of an empty one", belt.gone(), 9);
        Belts.then(belt, "b;b;e1");
        Check.same("gone() after e of an empty one", belt.gone(), 9);
        DictationBelt undone = Belts.after("b;s1;h", "@0", "b;s2");
        Check.same("gone() before undo()", undone.gone(), 1);
        undone.undo();
        Check.same("gone() after undo()", undone.gone(), 0);
    }

    private static void usedShare() {
        DictationBelt belt = new DictationBelt();
        Check.same("usedShare() at first", belt.usedShare(), 0.0);
        belt.begin();
        for (int used = 1; used <= 32; used++) {
            belt.speak(1);
            Check.same("usedShare()", belt.usedShare(), used / 32.0);
        }
        Check.same("usedShare() of all", belt.usedShare(), 1.0);
        Belts.then(belt, "b;s2");
        Check.same("usedShare() after a loss", belt.usedShare(), 1.0);
        belt.erase(1);
        Check.same("usedShare() after erase()", belt.usedShare(), 0.96875);
    }
}
