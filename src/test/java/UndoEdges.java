/** The boundaries that the document names under Undo, Exceptions and the promises 37 to 39. */
final class UndoEdges {
    private UndoEdges() {
    }

    static void runAll() {
        Edge.test("An object is used for at most 512 calls after it has been made; what later calls"
                + " answer is free.", UndoEdges::calls512);
        Edge.test("The state consists of everything except the buffer and the saved states.",
                UndoEdges::everythingIsRestored);
        Edge.test("Each method that is marked \"Undoable\" saves the state from before the call if"
                + " it does not throw an exception, even if nothing changes.",
                UndoEdges::undoableOnesSave);
        Edge.test("At most 6 states are saved; when one more is saved, the oldest one is"
                + " discarded.", UndoEdges::sixAtMost);
        Edge.test("A call that throws an exception changes nothing.", UndoEdges::throwsAndLeaves);
        Edge.test("If more than one exception applies to a call, the one that is listed first in"
                + " its throws clause is thrown.", UndoEdges::firstListed);
        Edge.test("37: Restores the state that was saved last, and removes it from the saved"
                + " states.", UndoEdges::lastIsRestored);
        Edge.test("37: Returns the number of saved states that are left.", UndoEdges::left);
        Edge.test("37: Throws `IllegalStateException` if no state is saved",
                UndoEdges::undoWithoutAState);
        Edge.test("38: Returns the number of saved states, 0 to 6.", UndoEdges::savedStates);
        Edge.test("39: The hash starts at 4444.", UndoEdges::digestAtFirst);
        Edge.test("39: For each value v of the following list, in order, the hash becomes 31 *"
                + " hash + v, in long arithmetic with overflow.", UndoEdges::digestOfValues);
        Edge.test("39: for each recording its length, 1 if it has a flag, otherwise 0, what lost()"
                + " returns, and for each of its cells the number of the cell, its sound, and its"
                + " carbon; for each cell of the belt its owner.", UndoEdges::digestTells);
    }

    /** Two recordings, a flag, losses, a correction, a player, one gone, one running. */
    private static DictationBelt rich() {
        DictationBelt belt = Belts.after("b;s1;b;s2;s3;s4;b;s5;f2;h;g1;p;p", "@0", "b;s6;s7");
        belt.correct(0, 0, 40);
        return belt;
    }

    /** The 512th call answers as the first ones do. */
    private static void calls512() {
        DictationBelt moved = new DictationBelt();
        for (int call = 1; call <= 511; call++) {
            Check.same("moveHead()", moved.moveHead(call % 32), (call - 1) % 32);
        }
        Check.same("undo() as the 512th call", moved.undo(), 5);
        DictationBelt spoken = new DictationBelt();
        for (int round = 0; round < 15; round++) {
            Check.same("begin()", spoken.begin(), Math.min(round, 1));
            for (int sound = 0; sound < 32; sound++) {
                Check.same("speak()", spoken.speak(sound), sound);
            }
        }
        Check.same("gone() as the 496th call", spoken.gone(), 14);
        Check.same("spoken() as the 497th call", spoken.spoken(), 480);
        Check.same("lost(0)", spoken.lost(0), 0);
        // What comes later is free, but LANGUAGE.md lets no call throw by itself, nor fail to end.
        for (int later = 0; later < 2000; later++) {
            spoken.begin();
            spoken.speak(later % 100);
            Check.same("undo() long after", Edge.thrownBy(spoken, DictationBelt::undo), "nothing");
            Check.same("speak(100) long after", Edge.thrownBy(spoken, belt -> belt.speak(100)),
                    "IllegalArgumentException");
        }
    }

    private static void everythingIsRestored() {
        DictationBelt belt = rich();
        long before = belt.digest();
        double share = belt.usedShare();
        Belts.write(belt, "u1;e0;b;r32=9;h;g0;p;b;s8;f0");
        belt.run();
        Check.same("digest() is an other one", belt.digest() == before, false);
        Belts.write(belt, "b;");
        belt.undo();
        Check.same("digest()", belt.digest(), before);
        Check.same("usedShare()", belt.usedShare(), share);
        Check.same("sounds", Belts.sounds(belt, 0), "40 4");
        Check.same("cells", Belts.cells(belt, 0), "2 3");
        Check.same("carbon(0, 0)", belt.carbon(0, 0), 3);
        Check.same("lost(0)", belt.lost(0), 1);
        Check.same("hasFlag(1)", belt.hasFlag(1), true);
        Check.same("running()", belt.running(), 2);
        Check.same("playing()", belt.playing(), 0);
        Check.same("place()", belt.place(), 1);
        Check.same("head()", belt.head(), 2);
        Check.same("spoken()", belt.spoken(), 7);
        Check.same("gone()", belt.gone(), 1);
        Check.same("clearText(), the buffer is not restored", belt.clearText(), 2);
        allCellsAreRestored();
    }

    /** Each of the 32 cells has its own sound and carbon, and the recordings lie across. */
    private static void allCellsAreRestored() {
        DictationBelt belt = Belts.after("@17", "b");
        for (int cell = 0; cell < 32; cell++) {
            belt.speak(cell);
            if (cell == 9 || cell == 20) {
                belt.begin();
            }
        }
        for (int cell = 0; cell < 32; cell++) {
            int number = cell < 10 ? 0 : cell < 21 ? 1 : 2;
            belt.correct(number, cell - new int[] {0, 10, 21}[number], 99 - cell);
        }
        belt.halt();
        String before = told(belt);
        Belts.then(belt, "b;r32=50");
        Check.same("length() of what wrote over all", belt.length(0), 32);
        belt.undo();
        Check.same("all cells after undo()", told(belt), before);
        Belts.then(belt, "e2;e0;e0");
        belt.undo();
        Check.same("all cells after undo() of erase()", told(belt), before);
    }

    private static String told(DictationBelt belt) {
        StringBuilder all = new StringBuilder();
        for (int number = 0; number < belt.recordings(); number++) {
            all.append(Belts.cells(belt, number)).append(": ");
            all.append(Belts.sounds(belt, number)).append(": ");
            for (int place = 0; place < belt.length(number); place++) {
                all.append(belt.carbon(number, place)).append(' ');
            }
        }
        for (int cell = 0; cell < 32; cell++) {
            all.append(belt.owner(cell)).append(' ');
        }
        return all.toString();
    }

    private static void undoableOnesSave() {
        Edge.savesWithoutChange("begin()", () -> Belts.after("b"), DictationBelt::begin);
        Edge.saves("halt()", UndoEdges::rich, DictationBelt::halt);
        Edge.saves("speak()", UndoEdges::rich, belt -> belt.speak(1));
        Edge.savesWithoutChange("setFlag()", UndoEdges::rich, belt -> belt.setFlag(1, true));
        Edge.saves("erase()", UndoEdges::rich, belt -> belt.erase(0));
        Edge.savesWithoutChange("moveHead()", () -> Belts.after("@3"), belt -> belt.moveHead(3));
        Edge.savesWithoutChange("go()", () -> Belts.after("b;g0"), belt -> belt.go(0));
        Edge.savesWithoutChange("play()", () -> Belts.after("b;g0"), DictationBelt::play);
        Edge.savesWithoutChange("back()", () -> Belts.after("b;g0"), belt -> belt.back(9));
        Edge.savesWithoutChange("correct()", UndoEdges::rich, belt -> belt.correct(0, 0, 40));
        DictationBelt run = rich();
        int before = run.savedStates();
        Check.same("run() of no order", Belts.run(run, "e9"), 0);
        Check.same("savedStates() after run()", run.savedStates(), before + 1);
        Check.same("digest() after run()", run.digest(), rich().digest());
        othersSaveNothing();
    }

    private static void othersSaveNothing() {
        DictationBelt belt = rich();
        int before = belt.savedStates();
        belt.lossOf(0, 1);
        belt.goneAfter(1);
        belt.room();
        belt.nextLoser();
        belt.append('b');
        belt.firstError();
        belt.clearText();
        belt.sound(0, 0);
        belt.cellOf(0, 0);
        belt.carbon(0, 0);
        belt.owner(0);
        belt.length(0);
        belt.lost(0);
        belt.hasFlag(0);
        belt.usedShare();
        belt.savedStates();
        Check.same("savedStates() after the others", belt.savedStates(), before);
        Check.same("digest() after the others", belt.digest(), rich().digest());
    }

    private static void sixAtMost() {
        for (int calls = 0; calls <= 20; calls++) {
            DictationBelt belt = new DictationBelt();
            long[] digests = new long[calls + 1];
            for (int call = 0; call < calls; call++) {
                digests[call] = belt.digest();
                belt.moveHead(call + 1);
            }
            int kept = Math.min(6, calls);
            Check.same("savedStates()", belt.savedStates(), kept);
            for (int back = 1; back <= kept; back++) {
                belt.undo();
                Check.same("digest() after undo()", belt.digest(), digests[calls - back]);
                Check.same("head() after undo()", belt.head(), calls - back);
            }
            Check.same("savedStates() after all", belt.savedStates(), 0);
        }
    }

    /** One refused call for each exception of the document, on a belt that has something to lose. */
    private static void throwsAndLeaves() {
        Edge.refuses("begin()", Edge.STATE, Belts::ofTen, DictationBelt::begin);
        Edge.refuses("halt()", Edge.STATE, UndoEdges::stopped, DictationBelt::halt);
        Edge.refuses("speak(100)", Edge.RANGE, UndoEdges::rich, belt -> belt.speak(100));
        Edge.refuses("speak(1)", Edge.STATE, UndoEdges::stopped, belt -> belt.speak(1));
        Edge.refuses("setFlag(3, true)", Edge.INDEX, UndoEdges::rich, belt -> belt.setFlag(3, true));
        Edge.refuses("erase(3)", Edge.INDEX, UndoEdges::rich, belt -> belt.erase(3));
        Edge.refuses("erase(1)", Edge.STATE, UndoEdges::rich, belt -> belt.erase(1));
        Edge.refuses("moveHead(32)", Edge.INDEX, UndoEdges::stopped, belt -> belt.moveHead(32));
        Edge.refuses("moveHead(1)", Edge.STATE, UndoEdges::rich, belt -> belt.moveHead(1));
        Edge.refuses("length(3)", Edge.INDEX, UndoEdges::rich, belt -> belt.length(3));
        Edge.refuses("sound(3, 0)", Edge.INDEX, UndoEdges::rich, belt -> belt.sound(3, 0));
        Edge.refuses("cellOf(3, 0)", Edge.INDEX, UndoEdges::rich, belt -> belt.cellOf(3, 0));
        Edge.refuses("hasFlag(3)", Edge.INDEX, UndoEdges::rich, belt -> belt.hasFlag(3));
        Edge.refuses("lost(3)", Edge.INDEX, UndoEdges::rich, belt -> belt.lost(3));
        Edge.refuses("owner(32)", Edge.INDEX, UndoEdges::rich, belt -> belt.owner(32));
        Edge.refuses("go(3)", Edge.INDEX, UndoEdges::rich, belt -> belt.go(3));
        Edge.refuses("play()", Edge.STATE, Belts::ofTen, DictationBelt::play);
        Edge.refuses("back(10)", Edge.RANGE, UndoEdges::rich, belt -> belt.back(10));
        Edge.refuses("back(1)", Edge.STATE, Belts::ofTen, belt -> belt.back(1));
        Edge.refuses("correct(0, 2, 1)", Edge.INDEX, UndoEdges::rich, belt -> belt.correct(0, 2, 1));
        Edge.refuses("correct(0, 0, -1)", Edge.RANGE, UndoEdges::rich, belt -> belt.correct(0, 0, -1));
        Edge.refuses("correct(1, 0, 1)", Edge.STATE, UndoEdges::rich, belt -> belt.correct(1, 0, 1));
        Edge.refuses("carbon(3, 0)", Edge.INDEX, UndoEdges::rich, belt -> belt.carbon(3, 0));
        Edge.refuses("lossOf(3, 1)", Edge.INDEX, UndoEdges::rich, belt -> belt.lossOf(3, 1));
        Edge.refuses("lossOf(0, 33)", Edge.RANGE, UndoEdges::rich, belt -> belt.lossOf(0, 33));
        Edge.refuses("goneAfter(0)", Edge.RANGE, UndoEdges::rich, belt -> belt.goneAfter(0));
        Edge.refuses("append(32)", Edge.RANGE, UndoEdges::rich, belt -> belt.append(32));
        Edge.refuses("undo()", Edge.STATE, DictationBelt::new, DictationBelt::undo);
        Edge.refusesWithText("run()", Edge.RANGE, () -> {
            DictationBelt belt = rich();
            Belts.write(belt, "h;s");
            return belt;
        }, DictationBelt::run);
    }

    private static DictationBelt stopped() {
        DictationBelt belt = rich();
        belt.halt();
        return belt;
    }

    private static void firstListed() {
        Edge.refuses("speak(), none running", Edge.RANGE, UndoEdges::stopped,
                belt -> belt.speak(-1));
        Edge.refuses("speak(), full", Edge.RANGE, () -> Belts.after("b;r32=1"),
                belt -> belt.speak(100));
        Edge.refuses("moveHead(), running", Edge.INDEX, UndoEdges::rich,
                belt -> belt.moveHead(-1));
        Edge.refuses("back(), nowhere", Edge.RANGE, Belts::ofTen, belt -> belt.back(0));
        Edge.refuses("correct() of no recording, no sound", Edge.INDEX, UndoEdges::rich,
                belt -> belt.correct(3, 0, 100));
        Edge.refuses("correct() of no cell, no sound", Edge.INDEX, UndoEdges::rich,
                belt -> belt.correct(0, 2, 100));
        Edge.refuses("correct() of no cell, flagged", Edge.INDEX, UndoEdges::rich,
                belt -> belt.correct(1, 1, 1));
        Edge.refuses("correct() of no cell, flagged, no sound", Edge.INDEX, UndoEdges::rich,
                belt -> belt.correct(1, 1, 100));
        Edge.refuses("correct() of no sound, flagged", Edge.RANGE, UndoEdges::rich,
                belt -> belt.correct(1, 0, 100));
        Edge.refuses("lossOf() of no recording, no sounds", Edge.INDEX, UndoEdges::rich,
                belt -> belt.lossOf(3, 0));
        Edge.refusesWithText("append() of no code, 60 characters", Edge.RANGE, () -> {
            DictationBelt belt = new DictationBelt();
            Belts.write(belt, "b".repeat(60));
            return belt;
        }, belt -> belt.append(127));
    }

    private static void lastIsRestored() {
        DictationBelt belt = Belts.after("b");
        belt.speak(1);
        belt.speak(2);
        belt.undo();
        Check.same("sounds after undo()", Belts.sounds(belt, 0), "1");
        belt.speak(3);
        Check.same("sounds after an other call", Belts.sounds(belt, 0), "1 3");
        belt.undo();
        Check.same("sounds after undo() of it", Belts.sounds(belt, 0), "1");
        belt.undo();
        Check.same("sounds after one more", Belts.sounds(belt, 0), "");
        belt.undo();
        Check.same("recordings() after the last", belt.recordings(), 0);
        Check.same("digest() after the last", belt.digest(), new DictationBelt().digest());
        // The saved states are rows of their own: what is done after an undo leaves them.
        DictationBelt rows = rich();
        long before = rows.digest();
        rows.halt();
        long halted = rows.digest();
        rows.erase(0);
        rows.undo();
        rows.erase(0);
        rows.begin();
        rows.undo();
        rows.undo();
        Check.same("digest() after erase() twice", rows.digest(), halted);
        rows.undo();
        Check.same("digest() after halt()", rows.digest(), before);
    }

    private static void left() {
        DictationBelt belt = new DictationBelt();
        for (int call = 0; call < 9; call++) {
            belt.moveHead(call);
        }
        for (int left = 5; left >= 0; left--) {
            Check.same("undo()", belt.undo(), left);
            Check.same("savedStates()", belt.savedStates(), left);
        }
        belt.begin();
        Check.same("undo() of one", belt.undo(), 0);
    }

    private static void undoWithoutAState() {
        Edge.refuses("undo() at first", Edge.STATE, DictationBelt::new, DictationBelt::undo);
        Edge.refuses("undo() twice of one", Edge.STATE, () -> {
            DictationBelt belt = Belts.after("b;s1");
            belt.undo();
            return belt;
        }, DictationBelt::undo);
        Edge.refuses("undo() of a seventh", Edge.STATE, () -> {
            DictationBelt belt = new DictationBelt();
            for (int call = 1; call <= 7; call++) {
                belt.moveHead(call);
            }
            for (int back = 1; back <= 6; back++) {
                belt.undo();
            }
            Check.same("head() after six", belt.head(), 1);
            return belt;
        }, DictationBelt::undo);
        Edge.refuses("undo() after queries alone", Edge.STATE, () -> {
            DictationBelt belt = new DictationBelt();
            belt.room();
            belt.append('b');
            belt.clearText();
            return belt;
        }, DictationBelt::undo);
    }

    private static void savedStates() {
        DictationBelt belt = new DictationBelt();
        Check.same("savedStates() at first", belt.savedStates(), 0);
        for (int call = 1; call <= 14; call++) {
            belt.moveHead(0);
            Check.same("savedStates()", belt.savedStates(), Math.min(6, call));
        }
        belt.undo();
        Check.same("savedStates() after undo()", belt.savedStates(), 5);
        belt.moveHead(1);
        belt.moveHead(1);
        Check.same("savedStates() after two calls", belt.savedStates(), 6);
    }

    private static void digestAtFirst() {
        long due = 4444;
        for (int value : new int[] {0, -1, 0, 32, 0, 0, -1, -1, 0, 32, -1}) {
            due = 31 * due + value;
        }
        for (int cell = 0; cell < 32; cell++) {
            due = 31 * due + -1;
        }
        Check.same("digest()", new DictationBelt().digest(), due);
    }

    /** The hash of the document, of what the other calls tell. */
    static long dueDigest(DictationBelt belt) {
        long due = 4444;
        int[] first = {belt.recordings(), belt.running(), belt.head(), belt.free(), belt.spoken(),
            belt.gone(), belt.playing(), belt.place(), belt.corrected(), belt.room(),
            belt.nextLoser()};
        for (int value : first) {
            due = 31 * due + value;
        }
        for (int number = 0; number < belt.recordings(); number++) {
            due = 31 * due + belt.length(number);
            due = 31 * due + (belt.hasFlag(number) ? 1 : 0);
            due = 31 * due + belt.lost(number);
            for (int place = 0; place < belt.length(number); place++) {
                due = 31 * due + belt.cellOf(number, place);
                due = 31 * due + belt.sound(number, place);
                due = 31 * due + belt.carbon(number, place);
            }
        }
        for (int cell = 0; cell < 32; cell++) {
            due = 31 * due + belt.owner(cell);
        }
        return due;
    }

    private static void digestOfValues() {
        for (DictationBelt belt : new DictationBelt[] {new DictationBelt(), rich(), stopped(),
            Belts.ofTen(), Belts.after("b"), Belts.after("b;r32=99"),
            Belts.after("@17", "b;r20=50;f0;b;r12=49;g1;p;b"),
            Belts.after("b;r16=1;b;r16=2;h", "@9", "b;r9=3;f2;g1")}) {
            Check.same("digest()", belt.digest(), dueDigest(belt));
        }
    }

    /** Belts that differ in one thing alone have different digests. */
    private static void digestTells() {
        DictationBelt belt = rich();
        long digest = belt.digest();
        belt.setFlag(0, true);
        Check.same("digest() with a flag", belt.digest() == digest, false);
        belt.setFlag(0, false);
        Check.same("digest() without it", belt.digest(), digest);
        belt.correct(0, 1, 41);
        Check.same("digest() with a correction", belt.digest() == digest, false);
        Check.same("digest() with a correction, of what is told", belt.digest(), dueDigest(belt));
        Check.same("digest() of an other carbon", Belts.after("b;s1").digest()
                == correctedTo(1).digest(), false);
        Check.same("digest() again", belt.digest(), dueDigest(belt));
    }

    private static DictationBelt correctedTo(int sound) {
        DictationBelt belt = Belts.after("b;s2");
        belt.correct(0, 0, sound);
        return belt;
    }
}
