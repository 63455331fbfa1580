/** The boundaries that the document names under Terms: belt, recording, player, corrections. */
final class TermEdges {
    private static final String NINE = "b;s0;b;s1;b;s2;b;s3;b;s4;b;s5;b;s6;b;s7;b;s8;h";

    private TermEdges() {
    }

    static void runAll() {
        beltAndRecording();
        playerAndCorrections();
    }

    private static void beltAndRecording() {
        Edge.test("The belt has 32 cells, numbered from 0 to 31, and then from 0 again.",
                TermEdges::cellsGoRound);
        Edge.test("A cell is free, or it contains a sound, which is a number from 0 to 99, and"
                + " belongs to a recording.", TermEdges::everySoundIsHeld);
        Edge.test("At first all cells are free.", TermEdges::allFreeAtFirst);
        Edge.test("The head is on a cell, at first on the cell 0.", TermEdges::headAtFirst);
        Edge.test("There are at most 10 recordings, numbered from 0 in the order in which they"
                + " began", TermEdges::tenAtMost);
        Edge.test("when a recording goes away, the numbers of the recordings behind it decrease"
                + " by 1.", TermEdges::numbersDecrease);
        Edge.test("A recording has cells in the order in which they were written, and a flag or"
                + " none.", TermEdges::orderOfWriting);
        Edge.test("At most one recording is running, and it is always the last one.",
                TermEdges::runningIsLast);
        Edge.test("When a recording begins, the running one (if there is one) stops, and the new"
                + " one is running, without cells and without a flag.", TermEdges::beginStops);
        Edge.test("A cell is writable if it is free, or belongs to a recording that has no flag"
                + " and is not running.", TermEdges::writableCells);
        Edge.test("To speak a sound means: from the cell of the head on, going on cell by cell (and"
                + " round the belt), the first writable cell is found.",
                TermEdges::firstWritableFromEachHead);
        Edge.test("If it belongs to a recording, this recording loses it; a recording that has"
                + " lost its last cell goes away.", TermEdges::lastCellLost);
        Edge.test("The cell then contains the sound, as the last cell of the running recording,"
                + " and the head is on the cell behind it.", TermEdges::writtenCell);
        Edge.test("If there is no writable cell, the belt is full.", TermEdges::fullBelt);
        Edge.test("When the running recording stops, and it has no cells, it goes away.",
                TermEdges::stopsWithoutCells);
        Edge.test("The lost cells of a recording are those that it lost by speaking. (Erased"
                + " recordings do not lose their cells in this sense.)", TermEdges::lostBySpeaking);
    }

    private static void playerAndCorrections() {
        Edge.test("The player is at a recording and at a place in it, or nowhere, which is so at"
                + " first.", TermEdges::nowhereAtFirst);
        Edge.test("When the recording loses a cell before this place, the place decreases by 1;"
                + " the player stays at the same sound then.", TermEdges::lossRoundThePlace);
        Edge.test("When the recording goes away, the player is nowhere.", TermEdges::nowhereAgain);
        Edge.test("When the numbers of recordings change, the player stays at its recording.",
                TermEdges::playerStays);
        Edge.test("If the place is the number of cells, nothing is heard.", TermEdges::nothingHeard);
        Edge.test("Its carbon is the sound that was spoken in it, whatever corrections came"
                + " later.", TermEdges::carbonStays);
        Edge.test("A cell is corrected if its sound is not its carbon.", TermEdges::correctedCell);
    }

    private static void cellsGoRound() {
        DictationBelt belt = Belts.after("b");
        for (int cell = 0; cell < 32; cell++) {
            Check.same("speak()", belt.speak(cell), cell);
            Check.same("head()", belt.head(), cell == 31 ? 0 : cell + 1);
            Check.same("owner()", belt.owner(cell), 0);
        }
        DictationBelt turned = Belts.after("@31", "b");
        Check.same("speak() on the cell 31", turned.speak(1), 31);
        Check.same("speak() behind the cell 31", turned.speak(2), 0);
        Check.same("speak() once more", turned.speak(3), 1);
        Check.same("head()", turned.head(), 2);
    }

    private static void everySoundIsHeld() {
        for (int sound = 0; sound <= 99; sound++) {
            DictationBelt belt = Belts.after("b");
            belt.speak(sound);
            Check.same("sound()", belt.sound(0, 0), sound);
            Check.same("carbon()", belt.carbon(0, 0), sound);
            Check.same("owner() of sound " + sound, belt.owner(0), 0);
            Check.same("free() with sound " + sound, belt.free(), 31);
            Check.same("corrected() with sound " + sound, belt.corrected(), 0);
            belt.go(0);
            Check.same("play()", belt.play(), sound);
        }
    }

    private static void allFreeAtFirst() {
        DictationBelt belt = new DictationBelt();
        for (int cell = 0; cell < 32; cell++) {
            Check.same("owner(" + cell + ")", belt.owner(cell), -1);
        }
        Check.same("free()", belt.free(), 32);
        Check.same("usedShare()", belt.usedShare(), 0.0);
        Check.same("room()", belt.room(), 32);
        Check.same("recordings()", belt.recordings(), 0);
    }

    private static void headAtFirst() {
        DictationBelt belt = new DictationBelt();
        Check.same("head()", belt.head(), 0);
        belt.begin();
        Check.same("speak()", belt.speak(5), 0);
    }

    private static void tenAtMost() {
        DictationBelt belt = new DictationBelt();
        for (int number = 0; number < 10; number++) {
            Check.same("begin()", belt.begin(), number);
            Check.same("recordings()", belt.recordings(), number + 1);
            belt.speak(number);
        }
        for (int number = 0; number < 10; number++) {
            Check.same("sound(" + number + ", 0)", belt.sound(number, 0), number);
        }
        Edge.refuses("begin() of an eleventh", Edge.STATE, Belts::ofTen, DictationBelt::begin);
    }

    private static void numbersDecrease() {
        for (int erased = 0; erased < 10; erased++) {
            DictationBelt belt = Belts.ofTen();
            belt.setFlag(erased == 9 ? 8 : 9, true);
            belt.erase(erased);
            Check.same("recordings() after erase()", belt.recordings(), 9);
            Check.same("hasFlag(8) after erase()", belt.hasFlag(8), true);
            for (int number = 0; number < 9; number++) {
                int sound = number < erased ? number : number + 1;
                Check.same("sound() after erase()", belt.sound(number, 0), sound);
                Check.same("owner() after erase()", belt.owner(sound), number);
            }
        }
        for (int lost = 0; lost < 9; lost++) {
            DictationBelt belt = Belts.after(NINE, "@" + lost, "b;s99");
            Check.same("recordings() after a loss", belt.recordings(), 9);
            Check.same("running() after a loss", belt.running(), 8);
            for (int number = 0; number < 8; number++) {
                int sound = number < lost ? number : number + 1;
                Check.same("sound() after a loss", belt.sound(number, 0), sound);
            }
            Check.same("owner() of the spoken cell", belt.owner(lost), 8);
        }
        lossesGoWithTheirRecordings();
    }

    /** Eight recordings that have lost 1, 2, 3, 4 and no cells: the numbers go with them. */
    private static void lossesGoWithTheirRecordings() {
        int[] lost = {1, 2, 3, 4, 0, 0, 0, 0};
        for (int erased = 0; erased < 8; erased++) {
            DictationBelt belt = Belts.after("b;r5=0;b;r5=1;b;r5=2;b;r5=3;h", "@0", "b;s9;h", "@5",
                    "b;r2=9;h", "@10", "b;r3=9;h", "@15", "b;r4=9;h");
            belt.erase(erased);
            for (int number = 0; number < 7; number++) {
                Check.same("lost() after erase(" + erased + ")", belt.lost(number),
                        lost[number < erased ? number : number + 1]);
            }
        }
    }

    private static void orderOfWriting() {
        String[] left = {"31 0 1", "30 0 1", "30 31 1", "30 31 0"};
        for (int lost = 0; lost < 4; lost++) {
            DictationBelt belt = Belts.after("@30", "b;s1;s2;s3;s4;h", "@" + (lost + 30) % 32);
            Check.same("cells over the end of the belt", Belts.cells(belt, 0), "30 31 0 1");
            Check.same("sounds over the end of the belt", Belts.sounds(belt, 0), "1 2 3 4");
            Check.same("hasFlag(0)", belt.hasFlag(0), false);
            Belts.then(belt, "b;s9");
            Check.same("cells without one", Belts.cells(belt, 0), left[lost]);
        }
        // The cells 2 and 31 are free; then the head goes round and takes what an other one lost.
        DictationBelt belt = Belts.after("b;r2=1;h", "@3", "b;r28=2;f1;h", "@31", "b;r4=3");
        Check.same("cells in the order of writing", Belts.cells(belt, 1), "31 0 1 2");
    }

    private static void runningIsLast() {
        DictationBelt belt = Belts.after("b;s1;b;s2;b;s3");
        Check.same("running() of three", belt.running(), 2);
        belt.erase(0);
        Check.same("running() of two", belt.running(), 1);
        belt.begin();
        Check.same("running() after begin()", belt.running(), 2);
        belt.begin();
        Check.same("running() after begin() again", belt.running(), 2);
        belt.halt();
        Check.same("running() after halt()", belt.running(), -1);
        Check.same("running() of ten", Belts.ofTen().running(), 9);
        DictationBelt losers = Belts.after(NINE, "@0", "b");
        for (int gone = 0; gone < 9; gone++) {
            Check.same("running() before a loss", losers.running(), 9 - gone);
            losers.speak(1);
        }
        Check.same("running() of one", losers.running(), 0);
    }

    private static void beginStops() {
        DictationBelt belt = new DictationBelt();
        Check.same("begin() with none running", belt.begin(), 0);
        Belts.then(belt, "s1;s2;f0");
        Check.same("begin() with a running one", belt.begin(), 1);
        Check.same("length() of the stopped one", belt.length(0), 2);
        Check.same("hasFlag() of the stopped one", belt.hasFlag(0), true);
        Check.same("length() of the new one", belt.length(1), 0);
        Check.same("hasFlag() of the new one", belt.hasFlag(1), false);
        Check.same("lost() of the new one", belt.lost(1), 0);
        belt.setFlag(1, true);
        Check.same("begin() with a flagged empty one", belt.begin(), 1);
        Check.same("hasFlag() of the newest", belt.hasFlag(1), false);
        DictationBelt after = Belts.after("b;s1;b;s2;f1;h");
        after.setFlag(1, false);
        after.erase(1);
        Check.same("begin() where a flag was", after.begin(), 1);
        Check.same("hasFlag() where a flag was", after.hasFlag(1), false);
    }

    private static void writableCells() {
        DictationBelt free = Belts.after("b;s1;h", "@1", "b");
        Check.same("speak() on a free cell", free.speak(9), 1);
        DictationBelt stopped = Belts.after("b;s1;h", "@0", "b");
        Check.same("speak() on one without a flag", stopped.speak(9), 0);
        DictationBelt flagged = Belts.after("b;s1;h;f0", "@0", "b");
        Check.same("speak() on a flagged one", flagged.speak(9), 1);
        // The running one writes 30, 31 and 29; so the head stands before its own 30 and 31.
        DictationBelt own = Belts.after("b;r29=1;f0;b;s2;h", "@30", "b;s3;s4;s5");
        Check.same("cells of the running one", Belts.cells(own, 1), "30 31 29");
        Check.same("room() by a flag and a running one", own.room(), 0);
        own.setFlag(0, false);
        Check.same("speak() over cells of the running one", own.speak(6), 0);
        own.setFlag(1, true);
        Check.same("room() with a flagged running one", own.room(), 28);
        own.setFlag(1, false);
        own.halt();
        Check.same("room() when it has stopped", own.room(), 32);
        own.erase(0);
        Check.same("free() of an erased one", own.free(), 28);
        Check.same("room() with cells of an erased one", own.room(), 32);
    }

    /** Each cell is once the only writable one, free or of a recording, for each head. */
    private static void firstWritableFromEachHead() {
        for (int only = 0; only < 32; only++) {
            String behind = "@" + (only + 1) % 32;
            for (int head = 0; head < 32; head++) {
                DictationBelt free = Belts.after(behind, "b;r31=1;f0;h", "@" + head, "b");
                Check.same("speak() on the only free cell", free.speak(5), only);
                Check.same("head() behind it", free.head(), (only + 1) % 32);
                DictationBelt loser =
                        Belts.after("@" + only, "b;s2;b;r31=1;f1;h", "@" + head, "b");
                Check.same("speak() on the only unflagged cell", loser.speak(5), only);
                Check.same("gone()", loser.gone(), 1);
            }
        }
        for (int head = 0; head < 32; head++) {
            DictationBelt belt = Belts.after("b;r32=1;h", "@" + head, "b");
            Check.same("speak() on the head's own cell", belt.speak(5), head);
        }
    }

    private static void lastCellLost() {
        DictationBelt belt = Belts.after("b;s1;s2;h", "@0", "b;s3");
        Check.same("recordings() before the last cell", belt.recordings(), 2);
        Check.same("length() before the last cell", belt.length(0), 1);
        Check.same("lost() before the last cell", belt.lost(0), 1);
        Check.same("gone() before the last cell", belt.gone(), 0);
        belt.speak(4);
        Check.same("recordings() after the last cell", belt.recordings(), 1);
        Check.same("length() of the one that spoke", belt.length(0), 2);
        Check.same("lost() of the one that spoke", belt.lost(0), 0);
        Check.same("gone() after the last cell", belt.gone(), 1);
        belt.speak(5);
        Check.same("recordings() after a free cell", belt.recordings(), 1);
        Check.same("gone() after a free cell", belt.gone(), 1);
        DictationBelt one = Belts.after("b;s1;b;s2;s3;h", "@0", "b;s4");
        Check.same("length(0) of the neighbour", one.length(0), 2);
        Check.same("lost(0) of the neighbour", one.lost(0), 0);
    }

    private static void writtenCell() {
        DictationBelt belt = Belts.after("b;r30=1;f0;b;s2;h", "@31", "b;s3");
        Check.same("head() behind the cell 31", belt.head(), 0);
        Check.same("speak() behind the flagged ones", belt.speak(4), 30);
        Check.same("head() behind the cell 30", belt.head(), 31);
        Check.same("cells", Belts.cells(belt, 1), "31 30");
        Check.same("sounds", Belts.sounds(belt, 1), "3 4");
        Check.same("carbon() of a cell that was lost", belt.carbon(1, 1), 4);
        Check.same("owner(30)", belt.owner(30), 1);
    }

    private static void fullBelt() {
        Edge.refuses("speak(), all of the running one", Edge.STATE,
                () -> Belts.after("b;r32=1"), belt -> belt.speak(1));
        Edge.refuses("speak(), all flagged", Edge.STATE,
                () -> Belts.after("b;r32=1;f0;b"), belt -> belt.speak(1));
        Edge.refuses("speak(), flagged and running", Edge.STATE,
                () -> Belts.after("b;r31=1;f0;b;s1"), belt -> belt.speak(1));
        DictationBelt full = Belts.after("b;r31=1;f0;b");
        Check.same("speak(), one cell free", full.speak(1), 31);
        Check.same("room()", full.room(), 0);
        DictationBelt unflagged = Belts.after("b;r32=1;b");
        Check.same("speak(), no cell free and no flag", unflagged.speak(1), 0);
    }

    private static void stopsWithoutCells() {
        DictationBelt belt = Belts.after("b;s1;b");
        belt.halt();
        Check.same("recordings() after halt()", belt.recordings(), 1);
        belt.begin();
        belt.begin();
        Check.same("recordings() after begin()", belt.recordings(), 2);
        belt.setFlag(1, true);
        belt.halt();
        Check.same("recordings() after halt() of a flagged one", belt.recordings(), 1);
        Check.same("gone()", belt.gone(), 0);
        Belts.then(belt, "b;b;b;h");
        Check.same("recordings() after orders", belt.recordings(), 1);
        Belts.then(belt, "b;s2;h");
        Check.same("recordings() after halt() of one cell", belt.recordings(), 2);
        DictationBelt alone = Belts.after("b;h");
        Check.same("recordings() of the only one", alone.recordings(), 0);
        Check.same("running() of none", alone.running(), -1);
    }

    private static void lostBySpeaking() {
        DictationBelt belt = Belts.after("b;s1;s2;s3;b;s4;s5;h", "@0", "b;s6;s7;h");
        Check.same("lost(0)", belt.lost(0), 2);
        Check.same("lost(1)", belt.lost(1), 0);
        Check.same("lost(2)", belt.lost(2), 0);
        belt.erase(1);
        Check.same("gone() after erase()", belt.gone(), 0);
        Check.same("lost(0) after erase()", belt.lost(0), 2);
        Check.same("lost(1) after erase()", belt.lost(1), 0);
        belt.correct(0, 0, 9);
        belt.setFlag(0, true);
        Check.same("lost(0) after correct()", belt.lost(0), 2);
        belt.undo();
        belt.undo();
        belt.undo();
        belt.undo();
        Check.same("recordings() after undo()", belt.recordings(), 2);
        Check.same("lost(0) after undo()", belt.lost(0), 0);
    }

    private static void nowhereAtFirst() {
        DictationBelt belt = new DictationBelt();
        Check.same("playing()", belt.playing(), -1);
        Check.same("place()", belt.place(), -1);
        Belts.then(belt, "b;s1;h");
        Check.same("playing() without go()", belt.playing(), -1);
        Check.same("place() without go()", belt.place(), -1);
        Edge.refuses("play()", Edge.STATE, DictationBelt::new, DictationBelt::play);
        Edge.refuses("back()", Edge.STATE, DictationBelt::new, asked -> asked.back(1));
    }

    /** Each of four cells is lost once for each place, on the belt's middle and over its end. */
    private static void lossRoundThePlace() {
        for (int first = 28; first <= 32; first++) {
            for (int place = 0; place <= 4; place++) {
                for (int lost = 0; lost < 4; lost++) {
                    String move = "@" + first % 32;
                    String lose = "@" + (first + lost) % 32;
                    lossAt(Belts.after(move, "b;s11;s12;s13;s14;h;g0"), lose, place, lost);
                    // With recordings that were written before and behind it, and lose nothing.
                    lossAt(Belts.after("@6", "b;r3=1;h", move, "b;s11;s12;s13;s14;b;r3=2;h;g1"),
                            lose, place, lost);
                }
            }
        }
    }

    private static void lossAt(DictationBelt belt, String lose, int place, int lost) {
        int[] sounds = {11, 12, 13, 14};
        for (int played = 0; played < place; played++) {
            belt.play();
        }
        Belts.then(belt, lose, "b;s9");
        Check.same("place()", belt.place(), lost < place ? place - 1 : place);
        int next = lost == place ? place + 1 : place;
        Check.same("play()", belt.play(), next < 4 ? sounds[next] : -1);
    }

    private static void isNowhere(String how, DictationBelt belt) {
        Check.same("playing() " + how, belt.playing(), -1);
        Check.same("place() " + how, belt.place(), -1);
    }

    private static void nowhereAgain() {
        DictationBelt lost = Belts.after("b;s1;s2;b;s3;h;g0;p;p", "@0", "b;s4");
        Check.same("playing() before the last cell", lost.playing(), 0);
        Check.same("place() before the last cell", lost.place(), 1);
        lost.speak(5);
        isNowhere("after the last cell", lost);
        DictationBelt erased = Belts.after("b;s1;b;s2;b;s3;g1;p");
        erased.erase(1);
        isNowhere("after erase()", erased);
        DictationBelt running = Belts.after("b;s1;b;s2;g1");
        running.erase(1);
        isNowhere("after erase() of the running one", running);
        DictationBelt halted = Belts.after("b;s1;b;g1");
        halted.halt();
        isNowhere("after halt() of an empty one", halted);
        DictationBelt begun = Belts.after("b;g0");
        begun.begin();
        isNowhere("after begin() behind an empty one", begun);
        isNowhere("after e", Belts.after("b;s1;g0;e0"));
        isNowhere("after r", Belts.after("b;s1;g0;h", "@0", "b;r2=5"));
        begun.undo();
        Check.same("playing() after undo()", begun.playing(), 0);
        Check.same("place() after undo()", begun.place(), 0);
    }

    private static void playerStays() {
        for (int player = 0; player < 9; player++) {
            for (int away = 0; away < 9; away++) {
                if (away != player) {
                    int due = player > away ? player - 1 : player;
                    DictationBelt erased = Belts.after(NINE, "g" + player + ";p");
                    erased.erase(away);
                    Check.same("playing() after erase()", erased.playing(), due);
                    Check.same("place() after erase()", erased.place(), 1);
                    erased.back(1);
                    Check.same("play() after erase()", erased.play(), player);
                    DictationBelt lost = Belts.after(NINE, "g" + player, "@" + away, "b;s50");
                    Check.same("playing() after a loss", lost.playing(), due);
                    Check.same("place() after a loss", lost.place(), 0);
                    Check.same("play() after a loss", lost.play(), player);
                }
            }
        }
        DictationBelt running = Belts.after("b;s1;b;s2;g1");
        running.erase(0);
        Check.same("playing() at the running one", running.playing(), 0);
    }

    private static void nothingHeard() {
        DictationBelt belt = Belts.after("b;s1;s2;g0;p;p");
        Check.same("play() at the end", belt.play(), -1);
        Check.same("place() at the end", belt.place(), 2);
        Check.same("play() at the end again", belt.play(), -1);
        Check.same("place() at the end again", belt.place(), 2);
        belt.back(1);
        Check.same("play() of the last", belt.play(), 2);
        DictationBelt empty = Belts.after("b;g0");
        Check.same("play() without cells", empty.play(), -1);
        Check.same("place() without cells", empty.place(), 0);
        DictationBelt whole = Belts.after("b;r32=7;g0");
        for (int place = 0; place < 32; place++) {
            Check.same("play()", whole.play(), 7);
        }
        Check.same("play() behind 32 cells", whole.play(), -1);
        Check.same("place() behind 32 cells", whole.place(), 32);
    }

    private static void carbonStays() {
        DictationBelt belt = Belts.after("b;s0;s99");
        belt.correct(0, 0, 99);
        belt.correct(0, 0, 50);
        belt.correct(0, 1, 0);
        belt.correct(0, 1, 99);
        Check.same("sound() after two", belt.sound(0, 0), 50);
        Check.same("carbon() after two", belt.carbon(0, 0), 0);
        Check.same("carbon() after a way back", belt.carbon(0, 1), 99);
        Belts.then(belt, "h", "@0", "b;s7");
        Check.same("carbon() of a cell spoken anew", belt.carbon(1, 0), 7);
        Check.same("corrected()", belt.corrected(), 0);
    }

    private static void correctedCell() {
        DictationBelt belt = Belts.after("b;s0;s99;b;s5");
        belt.correct(0, 0, 0);
        Check.same("corrected() with the same sound", belt.corrected(), 0);
        belt.correct(0, 0, 99);
        Check.same("corrected() of one", belt.corrected(), 1);
        belt.correct(0, 0, 98);
        Check.same("corrected() of one twice", belt.corrected(), 1);
        belt.correct(1, 0, 6);
        Check.same("corrected() of two", belt.corrected(), 2);
        belt.correct(0, 0, 0);
        Check.same("corrected() of one that is spoken again", belt.corrected(), 1);
        belt.erase(1);
        Check.same("corrected() after erase()", belt.corrected(), 0);
        DictationBelt all = Belts.after("b;r32=1");
        for (int place = 0; place < 32; place++) {
            all.correct(0, place, 2);
        }
        Check.same("corrected() of 32", all.corrected(), 32);
    }
}
