/** The boundaries that the document names under the promises 1 to 7. */
final class RecordingEdges {
    private static final String NINE = "b;s0;b;s1;b;s2;b;s3;b;s4;b;s5;b;s6;b;s7;b;s8";

    private RecordingEdges() {
    }

    static void runAll() {
        Edge.test("1: Creates an empty belt.", RecordingEdges::emptyBelt);
        Edge.test("2: Returns its number.", RecordingEdges::beginNumber);
        Edge.test("2: Throws `IllegalStateException` if there are 10 recordings, and none of them"
                + " is a running one without cells", RecordingEdges::beginWithTen);
        Edge.test("2: Begins a recording. Undoable.", RecordingEdges::beginSaves);
        Edge.test("3: Returns the number of its cells.", RecordingEdges::haltNumber);
        Edge.test("3: Throws `IllegalStateException` if none is running",
                RecordingEdges::haltWithoutARunningOne);
        Edge.test("3: Stops the running recording. Undoable.", RecordingEdges::haltSaves);
        Edge.test("4: Returns the cell in which it is written.", RecordingEdges::speakCell);
        Edge.test("4: Throws `IllegalArgumentException` if sound is out of range",
                RecordingEdges::speakOutOfRange);
        Edge.test("4: Throws `IllegalStateException` if no recording is running, or the belt is"
                + " full", RecordingEdges::speakInNoState);
        Edge.test("4: Speaks a sound. Undoable.", RecordingEdges::speakSaves);
        Edge.test("5: Returns whether it had a flag before the call.", RecordingEdges::flagBefore);
        Edge.test("5: Throws `IndexOutOfBoundsException` if there is no such recording",
                RecordingEdges::flagOfNone);
        Edge.test("5: Gives a recording a flag, or takes the flag away. Undoable.",
                RecordingEdges::flagSaves);
        Edge.test("6: Erases a recording: its cells become free, and it goes away (also if it is"
                + " running; then none is running). Undoable.", RecordingEdges::eraseRunningOrNot);
        Edge.test("6: Returns the number of cells that become free.", RecordingEdges::eraseNumber);
        Edge.test("6: Throws `IndexOutOfBoundsException` if there is no such recording",
                RecordingEdges::eraseOfNone);
        Edge.test("6: Throws `IllegalStateException` if it has a flag",
                RecordingEdges::eraseOfAFlagged);
        Edge.test("7: Moves the head. Undoable.", RecordingEdges::moveHeadSaves);
        Edge.test("7: Returns the cell on which it was.", RecordingEdges::moveHeadBefore);
        Edge.test("7: Throws `IndexOutOfBoundsException` if there is no such cell",
                RecordingEdges::moveHeadBesideTheBelt);
        Edge.test("7: Throws `IllegalStateException` if a recording is running",
                RecordingEdges::moveHeadWhileRunning);
    }

    private static void emptyBelt() {
        DictationBelt belt = new DictationBelt();
        Check.same("recordings()", belt.recordings(), 0);
        Check.same("running()", belt.running(), -1);
        Check.same("free()", belt.free(), 32);
        Check.same("spoken()", belt.spoken(), 0);
        Check.same("gone()", belt.gone(), 0);
        Check.same("corrected()", belt.corrected(), 0);
        Check.same("nextLoser()", belt.nextLoser(), -1);
        Check.same("goneAfter(32)", belt.goneAfter(32), 0);
        Check.same("savedStates()", belt.savedStates(), 0);
        Check.same("firstError()", belt.firstError(), 0);
        Check.same("clearText()", belt.clearText(), 0);
        DictationBelt other = Belts.after("b;s1;f0;g0");
        Belts.write(other, "b");
        Check.same("a new object behind an other", new DictationBelt().digest(), belt.digest());
        Check.same("its savedStates()", new DictationBelt().savedStates(), 0);
        Check.same("its clearText()", new DictationBelt().clearText(), 0);
    }

    private static void beginNumber() {
        DictationBelt belt = new DictationBelt();
        Check.same("begin() as the first", belt.begin(), 0);
        Check.same("begin() behind an empty first", belt.begin(), 0);
        belt.speak(1);
        Check.same("begin() as the second", belt.begin(), 1);
        DictationBelt nine = Belts.after(NINE);
        Check.same("begin() as the tenth", nine.begin(), 9);
        nine.erase(9);
        Check.same("begin() as the tenth after erase()", nine.begin(), 9);
        nine.erase(0);
        Check.same("begin() behind an empty tenth that is now the ninth", nine.begin(), 8);
    }

    private static void beginWithTen() {
        Edge.refuses("begin(), the tenth runs with a cell", Edge.STATE, Belts::ofTen,
                DictationBelt::begin);
        Edge.refuses("begin(), none of ten runs", Edge.STATE, () -> Belts.after(NINE, "b;s9;h"),
                DictationBelt::begin);
        Edge.refuses("begin(), ten flagged", Edge.STATE, () -> Belts.after(NINE, "b;s9;f9;f0"),
                DictationBelt::begin);
        DictationBelt nine = Belts.after(NINE);
        Check.same("begin() with nine, one running", nine.begin(), 9);
        Check.same("begin() with ten, the tenth empty", nine.begin(), 9);
        nine.setFlag(9, true);
        Check.same("begin() with ten, the tenth empty and flagged", nine.begin(), 9);
        Check.same("recordings()", nine.recordings(), 10);
        Check.same("running()", nine.running(), 9);
        Check.same("hasFlag(9)", nine.hasFlag(9), false);
        DictationBelt stopped = Belts.after(NINE, "h");
        Check.same("begin() with nine, none running", stopped.begin(), 9);
        stopped.speak(9);
        Edge.refuses("begin() with ten at last", Edge.STATE, () -> Belts.after(NINE, "h", "b;s9"),
                DictationBelt::begin);
        stopped.erase(4);
        Check.same("begin() with nine of ten", stopped.begin(), 9);
    }

    private static void beginSaves() {
        Edge.saves("begin() on a new belt", DictationBelt::new, DictationBelt::begin);
        Edge.saves("begin() behind a running one", () -> Belts.after("b;s1"), DictationBelt::begin);
        Edge.saves("begin() with six saved states", () -> Belts.after("b;s1", "h", "@1", "@2", "@3",
                "@4"), DictationBelt::begin);
        Edge.savesWithoutChange("begin() behind an empty one", () -> Belts.after("b"),
                DictationBelt::begin);
    }

    private static void haltNumber() {
        Check.same("halt() of none", Belts.after("b;s1;b").halt(), 0);
        Check.same("halt() of one", Belts.after("b;s1;s2;b;s3").halt(), 1);
        Check.same("halt() of 31", Belts.after("b;r31=1").halt(), 31);
        Check.same("halt() of 32", Belts.after("b;r32=1").halt(), 32);
    }

    private static void haltWithoutARunningOne() {
        Edge.refuses("halt() on a new belt", Edge.STATE, DictationBelt::new, DictationBelt::halt);
        Edge.refuses("halt() after h", Edge.STATE, () -> Belts.after("b;s1;h"), DictationBelt::halt);
        Edge.refuses("halt() after h of an empty one", Edge.STATE, () -> Belts.after("b;s1;b;h"),
                DictationBelt::halt);
        Edge.refuses("halt() after e", Edge.STATE, () -> Belts.after("b;s1;b;s2;e1"),
                DictationBelt::halt);
        Edge.refuses("halt() after undo()", Edge.STATE, () -> {
            DictationBelt belt = Belts.after("b;s1;h", "b;s2");
            belt.undo();
            return belt;
        }, DictationBelt::halt);
    }

    private static void haltSaves() {
        Edge.saves("halt()", () -> Belts.after("b;s1"), DictationBelt::halt);
        Edge.saves("halt() of an empty one with the player", () -> Belts.after("b;f0;g0"),
                DictationBelt::halt);
    }

    private static void speakCell() {
        DictationBelt belt = Belts.after("b");
        Check.same("speak() on the first cell", belt.speak(1), 0);
        Check.same("speak() on the second cell", belt.speak(1), 1);
        Check.same("speak() on the last cell", Belts.after("@31", "b").speak(1), 31);
        Check.same("speak() round the belt", Belts.after("@31", "b;s1").speak(1), 0);
        Check.same("speak() over all the flagged", Belts.after("b;r31=1;f0;h", "@0", "b").speak(1),
                31);
        Check.same("speak() over the flagged and round", Belts.after("@1", "b;r31=1;f0;h", "@1",
                "b").speak(1), 0);
    }

    private static void speakOutOfRange() {
        for (int sound : new int[] {-1, 100, 101, Edge.MIN, Edge.MAX}) {
            Edge.refuses("speak(" + sound + ")", Edge.RANGE, () -> Belts.after("b;s1"),
                    belt -> belt.speak(sound));
            Edge.refuses("speak(" + sound + "), none running", Edge.RANGE, DictationBelt::new,
                    belt -> belt.speak(sound));
            Edge.refuses("speak(" + sound + "), full", Edge.RANGE, () -> Belts.after("b;r32=1"),
                    belt -> belt.speak(sound));
        }
        DictationBelt belt = Belts.after("b");
        Check.same("speak(0)", belt.speak(0), 0);
        Check.same("speak(99)", belt.speak(99), 1);
        Check.same("sounds", Belts.sounds(belt, 0), "0 99");
    }

    private static void speakInNoState() {
        for (int sound : new int[] {0, 99}) {
            Edge.refuses("speak() on a new belt", Edge.STATE, DictationBelt::new,
                    belt -> belt.speak(sound));
            Edge.refuses("speak() after h", Edge.STATE, () -> Belts.after("b;s1;h"),
                    belt -> belt.speak(sound));
            Edge.refuses("speak() after e", Edge.STATE, () -> Belts.after("b;s1;e0"),
                    belt -> belt.speak(sound));
            Edge.refuses("speak() on a full belt", Edge.STATE, () -> Belts.after("b;r32=1"),
                    belt -> belt.speak(sound));
            Edge.refuses("speak() on a belt full of flags", Edge.STATE,
                    () -> Belts.after("b;r16=1;f0;b;r16=2;f1;b;g0"), belt -> belt.speak(sound));
            Edge.refuses("speak(), none running and full", Edge.STATE,
                    () -> Belts.after("b;r32=1;f0;h"), belt -> belt.speak(sound));
        }
    }

    private static void speakSaves() {
        Edge.saves("speak()", () -> Belts.after("b"), belt -> belt.speak(1));
        Edge.saves("speak() over a last cell, with the player",
                () -> Belts.after("b;s1;b;s2;f1;h;g0;p", "@0", "b"), belt -> belt.speak(1));
        Edge.saves("speak() on the last cell", () -> Belts.after("b;r31=1"), belt -> belt.speak(1));
        Edge.saves("speak() over a corrected cell", () -> {
            DictationBelt belt = Belts.after("b;s1;s2;h", "@0", "b");
            belt.correct(0, 0, 9);
            return belt;
        }, belt -> belt.speak(1));
    }

    private static void flagBefore() {
        DictationBelt belt = Belts.after("b;s1;b;s2");
        Check.same("setFlag(0, false), none yet", belt.setFlag(0, false), false);
        Check.same("setFlag(0, true), none yet", belt.setFlag(0, true), false);
        Check.same("setFlag(0, true), one already", belt.setFlag(0, true), true);
        Check.same("hasFlag(1)", belt.hasFlag(1), false);
        Check.same("setFlag(1, true) of the running one", belt.setFlag(1, true), false);
        Check.same("setFlag(0, false), one already", belt.setFlag(0, false), true);
        Check.same("setFlag(0, false) again", belt.setFlag(0, false), false);
        Check.same("hasFlag(1) at last", belt.hasFlag(1), true);
        DictationBelt empty = Belts.after("b");
        Check.same("setFlag() without cells", empty.setFlag(0, true), false);
        Check.same("hasFlag() without cells", empty.hasFlag(0), true);
    }

    private static void flagOfNone() {
        for (boolean isSet : new boolean[] {true, false}) {
            Edge.refuses("setFlag(0) on a new belt", Edge.INDEX, DictationBelt::new,
                    belt -> belt.setFlag(0, isSet));
            for (int number : new int[] {-1, 2, 9, 10, Edge.MIN, Edge.MAX}) {
                Edge.refuses("setFlag(" + number + ")", Edge.INDEX,
                        () -> Belts.after("b;s1;b;s2;f1"), belt -> belt.setFlag(number, isSet));
            }
            Edge.refuses("setFlag(10) of ten", Edge.INDEX, Belts::ofTen,
                    belt -> belt.setFlag(10, isSet));
        }
        Check.same("setFlag(9) of ten", Belts.ofTen().setFlag(9, true), false);
    }

    private static void flagSaves() {
        Edge.saves("setFlag(0, true)", () -> Belts.after("b;s1"), belt -> belt.setFlag(0, true));
        Edge.saves("setFlag(0, false)", () -> Belts.after("b;s1;f0"),
                belt -> belt.setFlag(0, false));
        Edge.savesWithoutChange("setFlag(0, true) of a flagged one", () -> Belts.after("b;s1;f0"),
                belt -> belt.setFlag(0, true));
        Edge.savesWithoutChange("setFlag(0, false) of an unflagged one", () -> Belts.after("b;s1"),
                belt -> belt.setFlag(0, false));
    }

    private static void eraseRunningOrNot() {
        DictationBelt belt = Belts.after("b;s1;s2;b;s3;b;s4;s5");
        belt.erase(2);
        Check.same("running() after erase(2)", belt.running(), -1);
        Check.same("recordings() after erase(2)", belt.recordings(), 2);
        Check.same("owner(3) after erase(2)", belt.owner(3), -1);
        Check.same("head() after erase(2)", belt.head(), 5);
        Check.same("spoken() after erase(2)", belt.spoken(), 5);
        belt.begin();
        belt.erase(0);
        Check.same("running() after erase(0)", belt.running(), 1);
        Check.same("owner(0) after erase(0)", belt.owner(0), -1);
        Check.same("owner(2) after erase(0)", belt.owner(2), 0);
        Check.same("speak() after erase(0)", belt.speak(6), 5);
        belt.erase(1);
        belt.erase(0);
        Check.same("recordings() after all", belt.recordings(), 0);
        Check.same("free() after all", belt.free(), 32);
        Check.same("gone() after all", belt.gone(), 0);
        Check.same("begin() after all", belt.begin(), 0);
        Edge.saves("erase()", () -> Belts.after("b;s1;b;s2;g0"), asked -> asked.erase(0));
        Edge.saves("erase() of the running one", () -> Belts.after("b;s1;b;s2;g1"),
                asked -> asked.erase(1));
        Edge.saves("erase() without cells", () -> Belts.after("b"), asked -> asked.erase(0));
    }

    private static void eraseNumber() {
        Check.same("erase() of none", Belts.after("b;s1;b").erase(1), 0);
        Check.same("erase() of one", Belts.after("b;s1;b;r3=2").erase(0), 1);
        Check.same("erase() of 31", Belts.after("b;s1;b;r31=2").erase(1), 31);
        Check.same("erase() of 32", Belts.after("b;r32=1;h").erase(0), 32);
        Check.same("erase() after a loss", Belts.after("b;r3=1;h", "@0", "b;s2").erase(0), 2);
    }

    private static void eraseOfNone() {
        Edge.refuses("erase(0) on a new belt", Edge.INDEX, DictationBelt::new,
                belt -> belt.erase(0));
        for (int number : new int[] {-1, 2, 9, 10, Edge.MIN, Edge.MAX}) {
            Edge.refuses("erase(" + number + ")", Edge.INDEX, () -> Belts.after("b;s1;f0;b;s2;f1"),
                    belt -> belt.erase(number));
        }
        Edge.refuses("erase(10) of ten", Edge.INDEX, Belts::ofTen, belt -> belt.erase(10));
        Check.same("erase(9) of ten", Belts.ofTen().erase(9), 1);
        Edge.refuses("erase(0) of one that went away", Edge.INDEX, () -> Belts.after("b;f0;h"),
                belt -> belt.erase(0));
    }

    private static void eraseOfAFlagged() {
        Edge.refuses("erase(0), flagged", Edge.STATE, () -> Belts.after("b;s1;f0;b;s2"),
                belt -> belt.erase(0));
        Edge.refuses("erase(1), flagged and running", Edge.STATE, () -> Belts.after("b;s1;b;s2;f1"),
                belt -> belt.erase(1));
        Edge.refuses("erase(0), flagged and empty", Edge.STATE, () -> Belts.after("b;f0"),
                belt -> belt.erase(0));
        Check.same("erase(0) beside a flagged one", Belts.after("b;s1;b;s2;f1").erase(0), 1);
        Check.same("erase(0) without the flag", Belts.after("b;s1;f0;u0").erase(0), 1);
    }

    private static void moveHeadSaves() {
        Edge.saves("moveHead(31)", DictationBelt::new, belt -> belt.moveHead(31));
        Edge.savesWithoutChange("moveHead(0) on the cell 0", DictationBelt::new,
                belt -> belt.moveHead(0));
        Edge.savesWithoutChange("moveHead(31) on the cell 31", () -> Belts.after("@31"),
                belt -> belt.moveHead(31));
    }

    private static void moveHeadBefore() {
        DictationBelt belt = new DictationBelt();
        Check.same("moveHead(31)", belt.moveHead(31), 0);
        Check.same("moveHead(31) again", belt.moveHead(31), 31);
        Check.same("moveHead(0)", belt.moveHead(0), 31);
        Check.same("moveHead(0) again", belt.moveHead(0), 0);
        Check.same("moveHead() after speaking on the last cell",
                Belts.after("b;r32=1;h").moveHead(4), 0);
    }

    private static void moveHeadBesideTheBelt() {
        for (int cell : new int[] {-1, 32, 33, Edge.MIN, Edge.MAX}) {
            Edge.refuses("moveHead(" + cell + ")", Edge.INDEX, () -> Belts.after("@5"),
                    belt -> belt.moveHead(cell));
            Edge.refuses("moveHead(" + cell + "), running", Edge.INDEX, () -> Belts.after("b;s1"),
                    belt -> belt.moveHead(cell));
        }
        DictationBelt belt = new DictationBelt();
        for (int cell = 0; cell < 32; cell++) {
            belt.moveHead(cell);
            Check.same("head()", belt.head(), cell);
        }
    }

    private static void moveHeadWhileRunning() {
        for (int cell : new int[] {0, 1, 31}) {
            Edge.refuses("moveHead(" + cell + "), one running", Edge.STATE,
                    () -> Belts.after("b;s1"), belt -> belt.moveHead(cell));
            Edge.refuses("moveHead(" + cell + "), an empty one running", Edge.STATE,
                    () -> Belts.after("b"), belt -> belt.moveHead(cell));
        }
        Check.same("moveHead() after h", Belts.after("b;s1;h").moveHead(0), 1);
        Check.same("moveHead() after h of an empty one", Belts.after("b;h").moveHead(9), 0);
        Check.same("moveHead() after e", Belts.after("b;s1;e0").moveHead(0), 1);
    }
}
