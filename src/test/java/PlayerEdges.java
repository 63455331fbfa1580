/** The boundaries that the document names under the promises 21 to 28. */
final class PlayerEdges {
    private static final int[] NO_RECORDINGS = {-1, 2, 9, 10, 31, Edge.MIN, Edge.MAX};
    private static final int[] NO_SOUNDS = {-1, 100, 101, Edge.MIN, Edge.MAX};

    private PlayerEdges() {
    }

    static void runAll() {
        Edge.test("21: Brings the player to the beginning of a recording. Undoable.",
                PlayerEdges::goToTheBeginning);
        Edge.test("21: Returns the number of cells of the recording.", PlayerEdges::goNumber);
        Edge.test("21: Throws `IndexOutOfBoundsException` if there is no such recording",
                PlayerEdges::goToNone);
        Edge.test("22: Returns the sound that is heard; NONE if nothing is heard.",
                PlayerEdges::heard);
        Edge.test("22: Throws `IllegalStateException` if the player is nowhere",
                PlayerEdges::playNowhere);
        Edge.test("22: Plays. Undoable.", PlayerEdges::playSaves);
        Edge.test("23: Steps on the pedal: the player goes back, so that the place decreases, but"
                + " not below 0. Undoable.", PlayerEdges::backToTheBeginning);
        Edge.test("23: Returns the place after the call.", PlayerEdges::placeAfter);
        Edge.test("23: Throws `IllegalArgumentException` if cells is out of range",
                PlayerEdges::backOutOfRange);
        Edge.test("23: Throws `IllegalStateException` if the player is nowhere",
                PlayerEdges::backNowhere);
        Edge.test("24: Returns the recording at which the player is; NONE if it is nowhere.",
                PlayerEdges::playing);
        Edge.test("25: Returns the place of the player; NONE if it is nowhere.",
                PlayerEdges::place);
        Edge.test("26: Corrects a cell. Undoable.", PlayerEdges::correctSaves);
        Edge.test("26: Returns the previous sound.", PlayerEdges::previousSound);
        Edge.test("26: Throws `IndexOutOfBoundsException` if there is no such recording, or it has"
                + " no such cell", PlayerEdges::correctOfNone);
        Edge.test("26: Throws `IllegalArgumentException` if sound is out of range",
                PlayerEdges::correctOutOfRange);
        Edge.test("26: Throws `IllegalStateException` if the recording has a flag",
                PlayerEdges::correctOfAFlagged);
        Edge.test("27: Returns the carbon; NONE if the recording has not so many cells.",
                PlayerEdges::carbon);
        Edge.test("27: Throws `IndexOutOfBoundsException` if there is no such recording, or place"
                + " is negative", PlayerEdges::carbonOfNone);
        Edge.test("28: Returns the number of corrected cells of all recordings.",
                PlayerEdges::corrected);
    }

    private static void goToTheBeginning() {
        DictationBelt belt = Belts.after("b;s1;s2;b;s3;g0;p;p");
        belt.go(0);
        Check.same("place() at the same recording", belt.place(), 0);
        belt.play();
        belt.go(1);
        Check.same("playing() at an other one", belt.playing(), 1);
        Check.same("place() at an other one", belt.place(), 0);
        Check.same("play()", belt.play(), 3);
        DictationBelt loser = Belts.after("b;s1;s2;h", "@0", "b;s3");
        loser.go(0);
        Check.same("play() of what is left", loser.play(), 2);
        Edge.saves("go(0) from nowhere", () -> Belts.after("b;s1"), asked -> asked.go(0));
        Edge.saves("go(0) from an other one", () -> Belts.after("b;s1;b;s2;g1;p"),
                asked -> asked.go(0));
        Edge.savesWithoutChange("go(0) at its beginning", () -> Belts.after("b;s1;g0"),
                asked -> asked.go(0));
    }

    private static void goNumber() {
        Check.same("go() of none", Belts.after("b;s1;b").go(1), 0);
        Check.same("go() of one", Belts.after("b;s1;b;r3=2").go(0), 1);
        Check.same("go() of 32", Belts.after("b;r32=1").go(0), 32);
        Check.same("go() after a loss", Belts.after("b;r3=1;h", "@0", "b;s2").go(0), 2);
        Check.same("go(9) of ten", Belts.ofTen().go(9), 1);
    }

    private static void goToNone() {
        Edge.refuses("go(0) on a new belt", Edge.INDEX, DictationBelt::new, belt -> belt.go(0));
        for (int number : NO_RECORDINGS) {
            Edge.refuses("go(" + number + ")", Edge.INDEX, () -> Belts.after("b;s1;b;s2;g1;p"),
                    belt -> belt.go(number));
        }
        Edge.refuses("go(10) of ten", Edge.INDEX, Belts::ofTen, belt -> belt.go(10));
    }

    private static void heard() {
        DictationBelt belt = Belts.after("b;s0;s99;g0");
        Check.same("play() of the sound 0", belt.play(), 0);
        Check.same("play() of the sound 99", belt.play(), 99);
        Check.same("play() at the end", belt.play(), -1);
        belt.speak(5);
        Check.same("place() when one more is spoken", belt.place(), 2);
        Check.same("play() of what was spoken since", belt.play(), 5);
        belt.back(1);
        belt.correct(0, 2, 6);
        Check.same("play() of a corrected one", belt.play(), 6);
        Check.same("play() without cells", Belts.after("b;g0").play(), -1);
    }

    private static void playNowhere() {
        Edge.refuses("play() at first", Edge.STATE, DictationBelt::new, DictationBelt::play);
        Edge.refuses("play() without go()", Edge.STATE, () -> Belts.after("b;s1"),
                DictationBelt::play);
        Edge.refuses("play() of an erased one", Edge.STATE, () -> Belts.after("b;s1;b;s2;g0;e0"),
                DictationBelt::play);
        Edge.refuses("play() of a lost one", Edge.STATE,
                () -> Belts.after("b;s1;b;s2;h;g0", "@0", "b;s3"), DictationBelt::play);
        Edge.refuses("play() of one that stopped without cells", Edge.STATE,
                () -> Belts.after("b;s1;b;g1;h"), DictationBelt::play);
        Edge.refuses("play() after undo() of go()", Edge.STATE, () -> {
            DictationBelt belt = Belts.after("b;s1", "g0");
            belt.undo();
            return belt;
        }, DictationBelt::play);
    }

    private static void playSaves() {
        Edge.saves("play()", () -> Belts.after("b;s1;g0"), DictationBelt::play);
        Edge.savesWithoutChange("play() at the end", () -> Belts.after("b;s1;g0;p"),
                DictationBelt::play);
        Edge.savesWithoutChange("play() without cells", () -> Belts.after("b;g0"),
                DictationBelt::play);
    }

    private static DictationBelt atPlace(int place) {
        DictationBelt belt = Belts.after("b;r12=1;h;g0");
        for (int played = 0; played < place; played++) {
            belt.play();
        }
        return belt;
    }

    private static void backToTheBeginning() {
        for (int place = 0; place <= 12; place++) {
            for (int cells = 1; cells <= 9; cells++) {
                DictationBelt belt = atPlace(place);
                belt.back(cells);
                Check.same("place() after back(" + cells + ") from " + place, belt.place(),
                        place < cells ? 0 : place - cells);
                Check.same("playing()", belt.playing(), 0);
            }
        }
        Edge.saves("back(1)", () -> atPlace(1), belt -> belt.back(1));
        Edge.savesWithoutChange("back(1) at the beginning", () -> atPlace(0), belt -> belt.back(1));
    }

    private static void placeAfter() {
        Check.same("back(9) from 12", atPlace(12).back(9), 3);
        Check.same("back(9) from 10", atPlace(10).back(9), 1);
        Check.same("back(9) from 9", atPlace(9).back(9), 0);
        Check.same("back(9) from 8", atPlace(8).back(9), 0);
        Check.same("back(1) from 12", atPlace(12).back(1), 11);
        Check.same("back(1) from 1", atPlace(1).back(1), 0);
        Check.same("back(1) from 0", atPlace(0).back(1), 0);
    }

    private static void backOutOfRange() {
        for (int cells : new int[] {0, -1, 10, 11, Edge.MIN, Edge.MAX}) {
            Edge.refuses("back(" + cells + ")", Edge.RANGE, () -> atPlace(4),
                    belt -> belt.back(cells));
            Edge.refuses("back(" + cells + "), nowhere", Edge.RANGE, DictationBelt::new,
                    belt -> belt.back(cells));
        }
    }

    private static void backNowhere() {
        for (int cells : new int[] {1, 9}) {
            Edge.refuses("back() at first", Edge.STATE, DictationBelt::new,
                    belt -> belt.back(cells));
            Edge.refuses("back() of an erased one", Edge.STATE,
                    () -> Belts.after("b;s1;b;s2;g0;e0"), belt -> belt.back(cells));
            Edge.refuses("back() of a lost one", Edge.STATE,
                    () -> Belts.after("b;s1;b;s2;h;g0;p", "@0", "b;s3"), belt -> belt.back(cells));
        }
    }

    private static void playing() {
        Check.same("playing() at first", new DictationBelt().playing(), -1);
        Check.same("playing() with a recording", Belts.after("b;s1").playing(), -1);
        Check.same("playing() of the first", Belts.after("b;s1;b;s2;g0").playing(), 0);
        Check.same("playing() of the running one", Belts.after("b;s1;b;s2;g1").playing(), 1);
        Check.same("playing() without cells", Belts.after("b;g0").playing(), 0);
        Check.same("playing() of an erased one", Belts.after("b;s1;b;s2;g0;e0").playing(), -1);
        DictationBelt ten = Belts.ofTen();
        ten.go(9);
        Check.same("playing() of the tenth", ten.playing(), 9);
        ten.erase(0);
        Check.same("playing() of the ninth", ten.playing(), 8);
        ten.erase(8);
        Check.same("playing() of the ninth, erased", ten.playing(), -1);
    }

    private static void place() {
        Check.same("place() at first", new DictationBelt().place(), -1);
        Check.same("place() with a recording", Belts.after("b;s1").place(), -1);
        Check.same("place() at the beginning", Belts.after("b;s1;g0").place(), 0);
        Check.same("place() at the end", Belts.after("b;s1;g0;p;p").place(), 1);
        Check.same("place() without cells", Belts.after("b;g0;p").place(), 0);
        Check.same("place() of an erased one", Belts.after("b;s1;b;s2;g0;p;e0").place(), -1);
        DictationBelt loser = Belts.after("b;r32=1;h;g0");
        for (int played = 0; played < 32; played++) {
            loser.play();
        }
        Check.same("place() behind 32 cells", loser.place(), 32);
        loser.begin();
        for (int left = 31; left >= 1; left--) {
            loser.speak(2);
            Check.same("place() after a loss", loser.place(), left);
        }
        loser.speak(2);
        Check.same("place() after the last loss", loser.place(), -1);
    }

    private static void correctSaves() {
        Edge.saves("correct()", () -> Belts.after("b;s1"), belt -> belt.correct(0, 0, 2));
        Edge.savesWithoutChange("correct() with the same sound", () -> Belts.after("b;s1"),
                belt -> belt.correct(0, 0, 1));
    }

    private static void previousSound() {
        DictationBelt belt = Belts.after("b;s0;s99;b;r30=7");
        Check.same("correct() of the sound 0", belt.correct(0, 0, 99), 0);
        Check.same("correct() of the sound 99", belt.correct(0, 1, 0), 99);
        Check.same("correct() again", belt.correct(0, 0, 5), 99);
        Check.same("correct() with the same sound", belt.correct(0, 0, 5), 5);
        Check.same("correct() of the last cell of the running one", belt.correct(1, 29, 8), 7);
        Check.same("sound(1, 29)", belt.sound(1, 29), 8);
        Check.same("sound(1, 28)", belt.sound(1, 28), 7);
        Check.same("sounds", Belts.sounds(belt, 0), "5 0");
        DictationBelt turned = Belts.after("@31", "b;s1;s2;h", "@31", "b;s3");
        Check.same("correct() after a loss", turned.correct(0, 0, 4), 2);
        Check.same("sound() of the spoken cell", turned.sound(1, 0), 3);
    }

    private static void correctOfNone() {
        Edge.refuses("correct() on a new belt", Edge.INDEX, DictationBelt::new,
                belt -> belt.correct(0, 0, 1));
        for (int number : NO_RECORDINGS) {
            for (int sound : new int[] {1, 100, -1}) {
                Edge.refuses("correct(" + number + ", 0, " + sound + ")", Edge.INDEX,
                        () -> Belts.after("b;s1;b;s2;f1"), belt -> belt.correct(number, 0, sound));
            }
        }
        for (int place : new int[] {-1, 1, 2, 32, Edge.MIN, Edge.MAX}) {
            for (int sound : new int[] {1, 100, -1}) {
                Edge.refuses("correct(0, " + place + ", " + sound + ")", Edge.INDEX,
                        () -> Belts.after("b;s1;b;s2;s3;f0"),
                        belt -> belt.correct(0, place, sound));
            }
        }
        Edge.refuses("correct(0, 0, 1) without cells", Edge.INDEX, () -> Belts.after("b"),
                belt -> belt.correct(0, 0, 1));
        Edge.refuses("correct(0, 1, 1) after a loss", Edge.INDEX,
                () -> Belts.after("b;s1;s2;h", "@0", "b;s3"), belt -> belt.correct(0, 1, 1));
        Edge.refuses("correct(10, 0, 1) of ten", Edge.INDEX, Belts::ofTen,
                belt -> belt.correct(10, 0, 1));
    }

    private static void correctOutOfRange() {
        for (int sound : NO_SOUNDS) {
            Edge.refuses("correct(0, 0, " + sound + ")", Edge.RANGE, () -> Belts.after("b;s1"),
                    belt -> belt.correct(0, 0, sound));
            Edge.refuses("correct(0, 0, " + sound + "), flagged", Edge.RANGE,
                    () -> Belts.after("b;s1;f0"), belt -> belt.correct(0, 0, sound));
        }
        DictationBelt belt = Belts.after("b;s1");
        belt.correct(0, 0, 99);
        Check.same("sound() after correct() with 99", belt.sound(0, 0), 99);
        belt.correct(0, 0, 0);
        Check.same("sound() after correct() with 0", belt.sound(0, 0), 0);
        Check.same("free() after correct() with 0", belt.free(), 31);
    }

    private static void correctOfAFlagged() {
        for (int sound : new int[] {0, 1, 99}) {
            Edge.refuses("correct(0, 0, " + sound + "), flagged", Edge.STATE,
                    () -> Belts.after("b;s1;f0;b;s2"), belt -> belt.correct(0, 0, sound));
            Edge.refuses("correct(1, 0, " + sound + "), flagged and running", Edge.STATE,
                    () -> Belts.after("b;s1;b;s2;f1"), belt -> belt.correct(1, 0, sound));
        }
        Check.same("correct() beside a flagged one", Belts.after("b;s1;b;s2;f1").correct(0, 0, 3),
                1);
        Check.same("correct() without the flag", Belts.after("b;s1;f0;u0").correct(0, 0, 3), 1);
        DictationBelt belt = Belts.after("b;s1");
        belt.correct(0, 0, 2);
        belt.setFlag(0, true);
        Check.same("corrected() of a flagged one", belt.corrected(), 1);
    }

    private static void carbon() {
        DictationBelt belt = Belts.after("b;s0;s99;b");
        belt.correct(0, 0, 5);
        Check.same("carbon(0, 0)", belt.carbon(0, 0), 0);
        Check.same("carbon(0, 1)", belt.carbon(0, 1), 99);
        Check.same("carbon(0, 2)", belt.carbon(0, 2), -1);
        Check.same("carbon(0, max)", belt.carbon(0, Edge.MAX), -1);
        Check.same("carbon(1, 0), no cells", belt.carbon(1, 0), -1);
        DictationBelt whole = Belts.after("b;r31=1;s2");
        Check.same("carbon(0, 31)", whole.carbon(0, 31), 2);
        Check.same("carbon(0, 32)", whole.carbon(0, 32), -1);
        whole.setFlag(0, true);
        Check.same("carbon() of a flagged one", whole.carbon(0, 31), 2);
        Check.same("carbon(9, 0) of ten", Belts.ofTen().carbon(9, 0), 9);
    }

    private static void carbonOfNone() {
        Edge.refuses("carbon(0, 0) on a new belt", Edge.INDEX, DictationBelt::new,
                belt -> belt.carbon(0, 0));
        for (int number : NO_RECORDINGS) {
            Edge.refuses("carbon(" + number + ", 0)", Edge.INDEX, () -> Belts.after("b;s1;b;s2"),
                    belt -> belt.carbon(number, 0));
        }
        for (int place : new int[] {-1, -2, Edge.MIN}) {
            Edge.refuses("carbon(0, " + place + ")", Edge.INDEX, () -> Belts.after("b;s1;s2"),
                    belt -> belt.carbon(0, place));
            Edge.refuses("carbon(0, " + place + "), no cells", Edge.INDEX, () -> Belts.after("b"),
                    belt -> belt.carbon(0, place));
        }
        Edge.refuses("carbon(10, 0) of ten", Edge.INDEX, Belts::ofTen, belt -> belt.carbon(10, 0));
    }

    private static void corrected() {
        Check.same("corrected() at first", new DictationBelt().corrected(), 0);
        DictationBelt belt = Belts.after("b;s1;s2;b;s3;b;s4");
        Check.same("corrected() of none", belt.corrected(), 0);
        belt.correct(0, 0, 9);
        belt.correct(1, 0, 9);
        belt.correct(2, 0, 9);
        Check.same("corrected() of three recordings", belt.corrected(), 3);
        Belts.then(belt, "h", "@0", "b;s1");
        Check.same("corrected() after a loss", belt.corrected(), 2);
        belt.erase(2);
        Check.same("corrected() after erase()", belt.corrected(), 1);
        belt.undo();
        Check.same("corrected() after undo()", belt.corrected(), 2);
    }
}
