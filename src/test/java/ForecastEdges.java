import java.util.List;
import java.util.function.Supplier;

/** The boundaries that the document names under the promises 29 to 32. */
final class ForecastEdges {
    private static final String TEN = "b;s0;b;s1;b;s2;b;s3;b;s4;b;s5;b;s6;b;s7;b;s8;b;s9";

    private ForecastEdges() {
    }

    static void runAll() {
        Edge.test("29: the number of writable cells (as if a new recording was begun, if none is"
                + " running;", ForecastEdges::room);
        Edge.test("29: Returns how many sounds could be spoken before the belt is full:",
                ForecastEdges::roomIsWhatCanBeSpoken);
        Edge.test("29: it does not matter for this whether there are 10 already, nor for the next"
                + " three methods).", ForecastEdges::ten);
        Edge.test("30: Returns the recording to which the first writable cell belongs, from the"
                + " cell of the head on, that is not free; NONE if there is none.",
                ForecastEdges::nextLoser);
        Edge.test("31: Returns how many cells it loses if so many sounds are spoken (or as many as"
                + " possible) by the running recording, or by a new one if none is running.",
                ForecastEdges::lossOf);
        Edge.test("31: Throws `IndexOutOfBoundsException` if there is no such recording",
                ForecastEdges::lossOfNone);
        Edge.test("31: Throws `IllegalArgumentException` if sounds is out of range",
                ForecastEdges::lossOutOfRange);
        Edge.test("32: Returns how many recordings lose their last cell if so many sounds are"
                + " spoken, as for lossOf().", ForecastEdges::goneAfter);
        Edge.test("32: Throws `IllegalArgumentException` if sounds is out of range",
                ForecastEdges::goneOutOfRange);
        Edge.test("---- forecasts; they change nothing.", ForecastEdges::changeNothing);
    }

    private static void room() {
        Check.same("room() at first", new DictationBelt().room(), 32);
        Check.same("room() without cells", Belts.after("b").room(), 32);
        Check.same("room(), the running one has one", Belts.after("b;s1").room(), 31);
        Check.same("room(), the running one has 31", Belts.after("b;r31=1").room(), 1);
        Check.same("room(), the running one has all", Belts.after("b;r32=1").room(), 0);
        Check.same("room(), none running", Belts.after("b;r32=1;h").room(), 32);
        Check.same("room(), none running, all flagged", Belts.after("b;r32=1;f0;h").room(), 0);
        Check.same("room(), none running, 31 flagged",
                Belts.after("b;r31=1;f0;b;s1;h").room(), 1);
        Check.same("room(), a running one behind", Belts.after("b;r4=1;b;r5=2;f1;b;r6=3").room(),
                21);
        Check.same("room(), the running one flagged", Belts.after("b;r6=1;f0").room(), 26);
        Check.same("room() after e of the running one", Belts.after("b;r6=1;b;r7=2;e1").room(), 32);
    }

    /** Speaks as often as it is foretold, and once more. */
    private static void roomIsWhatCanBeSpoken() {
        for (Supplier<DictationBelt> made : speakers()) {
            DictationBelt belt = made.get();
            int room = belt.room();
            for (int left = room; left > 0; left--) {
                Check.same("room() before a sound", belt.room(), left);
                belt.speak(1);
            }
            Check.same("room() at the end", belt.room(), 0);
            Edge.refuses("speak() without room", Edge.STATE, () -> {
                DictationBelt twin = made.get();
                for (int left = room; left > 0; left--) {
                    twin.speak(1);
                }
                return twin;
            }, twin -> twin.speak(1));
        }
    }

    private static void ten() {
        DictationBelt belt = Belts.after(TEN, "h");
        Check.same("room() of ten", belt.room(), 32);
        Check.same("nextLoser() of ten", belt.nextLoser(), 0);
        Check.same("lossOf(0, 22) of ten", belt.lossOf(0, 22), 0);
        Check.same("lossOf(0, 23) of ten", belt.lossOf(0, 23), 1);
        Check.same("lossOf(9, 31) of ten", belt.lossOf(9, 31), 0);
        Check.same("lossOf(9, 32) of ten", belt.lossOf(9, 32), 1);
        Check.same("goneAfter(22) of ten", belt.goneAfter(22), 0);
        Check.same("goneAfter(23) of ten", belt.goneAfter(23), 1);
        Check.same("goneAfter(32) of ten", belt.goneAfter(32), 10);
        belt.setFlag(9, true);
        Check.same("room() of ten, one flagged", belt.room(), 31);
        Check.same("goneAfter(32) of ten, one flagged", belt.goneAfter(32), 9);
        DictationBelt running = Belts.after(TEN);
        Check.same("room() of ten, one running", running.room(), 31);
        Check.same("lossOf(9, 32) of ten, one running", running.lossOf(9, 32), 0);
        Check.same("goneAfter(32) of ten, one running", running.goneAfter(32), 9);
    }

    private static void nextLoser() {
        Check.same("nextLoser() at first", new DictationBelt().nextLoser(), -1);
        Check.same("nextLoser() of one without cells", Belts.after("b").nextLoser(), -1);
        Check.same("nextLoser() of the running one", Belts.after("b;r32=1").nextLoser(), -1);
        Check.same("nextLoser() of a flagged one", Belts.after("b;r32=1;f0;h").nextLoser(), -1);
        Check.same("nextLoser() of a stopped one", Belts.after("b;r32=1;h").nextLoser(), 0);
        Check.same("nextLoser() behind a flagged one",
                Belts.after("b;s1;f0;b;s2;b;s3;h", "@0").nextLoser(), 1);
        Check.same("nextLoser() behind 31 free cells", Belts.after("b;s1;h").nextLoser(), 0);
        Check.same("nextLoser() on the head", Belts.after("b;s1;b;s2;h", "@1").nextLoser(), 1);
        Check.same("nextLoser() just before the head",
                Belts.after("@31", "b;s1;h", "@0").nextLoser(), 0);
        Check.same("nextLoser() round the belt",
                Belts.after("b;s1;b;s2;h", "@2").nextLoser(), 0);
        Check.same("nextLoser() with a running one before it",
                Belts.after("b;s1;b;s2;b;s3;h", "@0", "b;s4").nextLoser(), 0);
    }

    /** Belts on which somebody may speak: with flags, round the belt, without room, with all. */
    private static List<Supplier<DictationBelt>> speakers() {
        return List.of(
            () -> Belts.after("b"),
            () -> Belts.after("b;r32=1;b"),
            () -> Belts.after("b;r31=1"),
            () -> Belts.after("b;r32=1"),
            () -> Belts.after("b;r4=1;b;r5=2;f1;b;r6=3;b"),
            () -> Belts.after("b;r4=1;b;r5=2;f1;b;r6=3;b;r7=4"),
            () -> Belts.after("@30", "b;r4=1;f0;b;r9=2;h", "@31", "b;s3"),
            () -> Belts.after("b;r16=1;b;r16=2;h", "@9", "b;r3=3"),
            () -> Belts.after("b;r16=1;f0;b;r16=2;f1;b"),
            () -> Belts.after("b;s1;b;s2;b;s3;b;s4;b;s5;b;s6;b;s7;b;s8;b;s9;b"),
            () -> Belts.after("b;r29=1;f0;b;s2;h", "@30", "b;s3;s4;s5", "u0"));
    }

    /** What is foretold is what comes; a recording that is gone has lost all that it had. */
    private static void lossOf() {
        for (Supplier<DictationBelt> made : speakers()) {
            int recordings = made.get().recordings();
            for (int number = 0; number < recordings; number++) {
                for (int sounds = 1; sounds <= 32; sounds++) {
                    DictationBelt belt = made.get();
                    int due = cellsThatAreLost(made.get(), number, sounds);
                    Check.same("lossOf(" + number + ", " + sounds + ")",
                            belt.lossOf(number, sounds), due);
                    belt.halt();
                    if (number < belt.recordings() && made.get().length(recordings - 1) == 0) {
                        Check.same("lossOf(" + number + ", " + sounds + "), none running",
                                belt.lossOf(number, sounds), due);
                    }
                }
            }
        }
    }

    /** How many cells the recording loses while so many sounds, or as many as possible, are spoken. */
    static int cellsThatAreLost(DictationBelt belt, int number, int sounds) {
        boolean[] isIts = new boolean[32];
        for (int place = 0; place < belt.length(number); place++) {
            isIts[belt.cellOf(number, place)] = true;
        }
        int lost = 0;
        int possible = Math.min(sounds, belt.room());
        for (int spoken = 0; spoken < possible; spoken++) {
            lost += isIts[belt.speak(1)] ? 1 : 0;
        }
        return lost;
    }

    private static void lossOfNone() {
        Edge.refuses("lossOf(0, 1) on a new belt", Edge.INDEX, DictationBelt::new,
                belt -> belt.lossOf(0, 1));
        for (int number : new int[] {-1, 2, 9, 10, 31, Edge.MIN, Edge.MAX}) {
            for (int sounds : new int[] {1, 32, 0, 33}) {
                Edge.refuses("lossOf(" + number + ", " + sounds + ")", Edge.INDEX,
                        () -> Belts.after("b;s1;b;s2"), belt -> belt.lossOf(number, sounds));
            }
        }
        Edge.refuses("lossOf(10, 1) of ten", Edge.INDEX, Belts::ofTen, belt -> belt.lossOf(10, 1));
    }

    private static void lossOutOfRange() {
        for (int sounds : new int[] {0, -1, 33, 34, Edge.MIN, Edge.MAX}) {
            Edge.refuses("lossOf(0, " + sounds + ")", Edge.RANGE, () -> Belts.after("b;s1;b;s2"),
                    belt -> belt.lossOf(0, sounds));
            Edge.refuses("lossOf(0, " + sounds + "), full", Edge.RANGE,
                    () -> Belts.after("b;r32=1"), belt -> belt.lossOf(0, sounds));
        }
        DictationBelt belt = Belts.after("b;r32=1;h");
        Check.same("lossOf(0, 1)", belt.lossOf(0, 1), 1);
        Check.same("lossOf(0, 32)", belt.lossOf(0, 32), 32);
    }

    private static void goneAfter() {
        for (Supplier<DictationBelt> made : speakers()) {
            for (int sounds = 1; sounds <= 32; sounds++) {
                DictationBelt belt = made.get();
                int foretold = belt.goneAfter(sounds);
                int before = belt.gone();
                int possible = Math.min(sounds, belt.room());
                for (int spoken = 0; spoken < possible; spoken++) {
                    belt.speak(1);
                }
                Check.same("goneAfter(" + sounds + ")", foretold, belt.gone() - before);
            }
        }
        Check.same("goneAfter(32) of none", new DictationBelt().goneAfter(32), 0);
        DictationBelt stopped = Belts.after("b;s1;s2;b;s3;f1;b;s4;s5;h", "@0");
        int[] due = {0, 1, 1, 2};
        for (int sounds = 1; sounds <= 4; sounds++) {
            Check.same("goneAfter(" + sounds + "), none running", stopped.goneAfter(sounds),
                    due[sounds - 1]);
        }
    }

    private static void goneOutOfRange() {
        for (int sounds : new int[] {0, -1, 33, 34, Edge.MIN, Edge.MAX}) {
            Edge.refuses("goneAfter(" + sounds + ") on a new belt", Edge.RANGE, DictationBelt::new,
                    belt -> belt.goneAfter(sounds));
            Edge.refuses("goneAfter(" + sounds + ")", Edge.RANGE, () -> Belts.after("b;s1;b;s2"),
                    belt -> belt.goneAfter(sounds));
        }
        DictationBelt belt = Belts.after("b;r32=1;h");
        Check.same("goneAfter(1)", belt.goneAfter(1), 0);
        Check.same("goneAfter(31)", belt.goneAfter(31), 0);
        Check.same("goneAfter(32)", belt.goneAfter(32), 1);
    }

    private static void changeNothing() {
        for (Supplier<DictationBelt> made : speakers()) {
            DictationBelt belt = made.get();
            long digest = belt.digest();
            int saved = belt.savedStates();
            for (int sounds = 1; sounds <= 32; sounds++) {
                belt.room();
                belt.nextLoser();
                belt.goneAfter(sounds);
                belt.lossOf(belt.recordings() - 1, sounds);
            }
            Check.same("digest() after forecasts", belt.digest(), digest);
            Check.same("savedStates() after forecasts", belt.savedStates(), saved);
            belt.undo();
            DictationBelt twin = made.get();
            twin.undo();
            Check.same("digest() after forecasts and undo()", belt.digest(), twin.digest());
        }
    }
}
