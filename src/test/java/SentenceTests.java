import java.lang.reflect.Method;
import java.lang.reflect.Modifier;
import java.util.Arrays;
import java.util.List;
import java.util.function.Consumer;

/** The sentences of the document that name no boundary: what things mean and what calls do. */
final class SentenceTests {
    private static final int LONGEST_TEXT = 60;
    /** Belts on which none is running, with one recording to nine, and with flags. */
    private static final String[][] STOPPED = {
        {"b;s1;h"},
        {"b;s1;h;f0"},
        {"b;r32=1;h"},
        {"b;r32=1;h", "@13"},
        {"b;r4=1;b;r5=2;f1;b;r6=3;h"},
        {"b;r4=1;b;r5=2;f1;b;r6=3;h", "@2"},
        {"b;r16=1;f0;b;r16=2;h", "@5"},
        {"@30", "b;r4=1;f0;b;r9=2;h", "@31", "b;s3;h"},
        {"b;s0;b;s1;b;s2;b;s3;b;s4;b;s5;b;s6;b;s7;b;s8;h", "@4"},
        {"b;r10=1;b;r10=2;b;r10=3;h;f1", "@25", "b;r9=4;h", "@6"},
    };

    private SentenceTests() {
    }

    static void runAll() {
        terms();
        queries();
        forecasts();
        textsAndDigest();
    }

    private static void terms() {
        Edge.test("A dictation belt: an endless belt of cells that writes over its oldest talk,"
                + " recordings that lose cells by that unless a flag protects them, a head that"
                + " jumps over protected cells, a player with a pedal that goes back, corrections"
                + " with a carbon of what was spoken, recordings that are erased, forecasts of what"
                + " would be lost, orders that are read from texts, and undo.",
                SentenceTests::allInOneRun);
        Edge.test("All numbers are integers, except for usedShare().",
                SentenceTests::numbersAreIntegers);
        Edge.test("The place is the number of cells of the recording before the cell that is"
                + " played next.", SentenceTests::placeCountsCells);
        Edge.test("To play means: the sound of the cell at the place is heard, and the place"
                + " increases by 1.", SentenceTests::playHearsTheCellAtThePlace);
        Edge.test("To correct a cell of a recording without a flag means: it contains another"
                + " sound then.", SentenceTests::correctChangesOneSound);
        Edge.test("The constants: `NONE = -1`: There is no such number.", SentenceTests::none);
    }

    private static void queries() {
        Edge.test("11: Returns the number of cells of a recording.", SentenceTests::lengths);
        Edge.test("12: Returns a sound of a recording.", SentenceTests::sounds);
        Edge.test("13: Returns a cell of a recording.", SentenceTests::cells);
        Edge.test("14: Tells whether a recording has a flag.", SentenceTests::flags);
        Edge.test("15: Returns the number of lost cells of a recording.", SentenceTests::losses);
        Edge.test("16: Returns the recording to which a cell belongs.", SentenceTests::owners);
        Edge.test("27: Returns the carbon of a cell of a recording.", SentenceTests::carbons);
    }

    private static void forecasts() {
        Edge.test("30: Finds the recording that loses a cell next.", SentenceTests::losesNext);
        Edge.test("31: Predicts how many cells a recording loses.", SentenceTests::predictsLosses);
        Edge.test("32: Predicts how many recordings go away.", SentenceTests::predictsGone);
    }

    private static void textsAndDigest() {
        Edge.test("33: Appends a character to the buffer.", SentenceTests::appendsBehind);
        Edge.test("34: Empties the buffer.", SentenceTests::empties);
        Edge.test("35: Finds the first error of the buffer.", SentenceTests::findsTheFirst);
        Edge.test("36: Executes the orders in the buffer, one after the other,",
                SentenceTests::executesInOrder);
        Edge.test("39: Computes a hash of the state.", SentenceTests::hashOfTheState);
        Edge.test("39: The values are: what recordings(), running(), head(), free(), spoken(),"
                + " gone(), playing(), place(), corrected(), room() and nextLoser() return;",
                SentenceTests::hashedValues);
        Edge.test("39: Returns the hash.", SentenceTests::hashIsReturned);
    }

    private static void allInOneRun() {
        DictationBelt belt = Belts.after("b;r20=1;b;r12=2;h");
        Check.same("head() behind the last cell", belt.head(), 0);
        Belts.then(belt, "b;s3");
        Check.same("lost() of the oldest", belt.lost(0), 1);
        Check.same("lost() of the younger one", belt.lost(1), 0);
        belt.setFlag(0, true);
        Check.same("speak() over protected cells", belt.speak(4), 20);
        Check.same("lost() of the protected one", belt.lost(0), 1);
        Check.same("lost() of the other one", belt.lost(1), 1);
        belt.go(2);
        Check.same("play()", belt.play(), 3);
        Check.same("play() again", belt.play(), 4);
        Check.same("back()", belt.back(1), 1);
        Check.same("play() after back()", belt.play(), 4);
        Check.same("correct()", belt.correct(2, 1, 9), 4);
        Check.same("sound()", belt.sound(2, 1), 9);
        Check.same("carbon()", belt.carbon(2, 1), 4);
        long before = belt.digest();
        Check.same("erase()", belt.erase(1), 11);
        Check.same("free() after erase()", belt.free(), 11);
        belt.undo();
        Check.same("digest() after undo()", belt.digest(), before);
        Check.same("lossOf(1, 11)", belt.lossOf(1, 11), 11);
        Check.same("goneAfter(10)", belt.goneAfter(10), 0);
        Check.same("goneAfter(11)", belt.goneAfter(11), 1);
        Belts.write(belt, "s5;u0;h;g2");
        Check.same("run()", belt.run(), 4);
        Check.same("sounds", Belts.sounds(belt, 2), "3 9 5");
        Check.same("hasFlag(0)", belt.hasFlag(0), false);
        Check.same("place()", belt.place(), 0);
        belt.undo();
        Check.same("digest() after undo() of run()", belt.digest(), before);
    }

    private static void numbersAreIntegers() {
        for (Method method : DictationBelt.class.getDeclaredMethods()) {
            if (Modifier.isPublic(method.getModifiers())) {
                String name = method.getName();
                Class<?> given = method.getReturnType();
                boolean isShare = name.equals("usedShare");
                Check.holds(name + " returns what is due", isShare ? given == double.class
                        : given == int.class || given == long.class || given == boolean.class);
                for (Class<?> type : method.getParameterTypes()) {
                    Check.holds(name + " takes integers",
                            type == int.class || type == boolean.class);
                }
            }
        }
        Check.same("usedShare() of one cell", Belts.after("b;s1").usedShare(), 0.03125);
    }

    /** Belts with the player at their recording 0, which has lost cells, or lies round the belt. */
    private static List<DictationBelt> withPlayer() {
        DictationBelt corrected = Belts.after("b;s1;s2;s3;s4;s5;g0");
        corrected.correct(0, 2, 30);
        return List.of(
            Belts.after("b;s1;s2;s3;s4;s5;s6;s7;s8;g0"),
            corrected,
            Belts.after("@29", "b;s1;s2;s3;s4;s5;s6;h;g0"),
            Belts.after("b;s1;s2;s3;s4;s5;s6;h;g0", "@1", "b;s9;h", "@3", "b;s9"),
            Belts.after("b;s1;s2;s3;s4;s5;s6;f0;b;s7;g0"),
            Belts.after("b;s9;b;s1;s2;s3;s4;g1;e0"),
            Belts.after("b;s9;h;b;s1;s2;s3;s4;h;g1", "@0", "b;s8"));
    }

    private static void placeCountsCells() {
        for (DictationBelt belt : withPlayer()) {
            int cells = belt.length(belt.playing());
            for (int before = 0; before < cells; before++) {
                Check.same("place()", belt.place(), before);
                Check.same("play()", belt.play(), belt.sound(belt.playing(), before));
            }
            Check.same("place() at the end", belt.place(), cells);
            for (int before = cells - 1; before >= 0; before--) {
                belt.back(1);
                Check.same("place() after back()", belt.place(), before);
                Check.same("play() after back()", belt.play(), belt.sound(belt.playing(), before));
                belt.back(1);
            }
        }
        // What is lost behind the cell that is played next is not counted, and changes nothing.
        DictationBelt behind = Belts.after("b;s1;s2;s3;s4;h;g0;p;p", "@3", "b;s9");
        Check.same("place() after a loss behind it", behind.place(), 2);
        Check.same("play() after a loss behind it", behind.play(), 3);
        Check.same("play() at the new end", behind.play(), -1);
    }

    private static void playHearsTheCellAtThePlace() {
        for (DictationBelt belt : withPlayer()) {
            int number = belt.playing();
            for (int place = 0; place < belt.length(number); place++) {
                long before = belt.digest();
                Check.same("play()", belt.play(), belt.sound(number, place));
                Check.same("place() after play()", belt.place(), place + 1);
                Check.same("playing() after play()", belt.playing(), number);
                belt.back(1);
                Check.same("digest(), of all but the place", belt.digest(), before);
                belt.play();
            }
        }
    }

    private static void correctChangesOneSound() {
        for (int number = 0; number < 3; number++) {
            for (int place = 0; place < 4; place++) {
                DictationBelt belt = Belts.after("b;s1;s2;s3;s4;b;s5;s6;s7;s8;b;s9;s10;s11;s12;g1;p");
                int head = belt.head();
                Check.same("correct()", belt.correct(number, place, 60), 4 * number + place + 1);
                for (int cell = 0; cell < 12; cell++) {
                    boolean isIt = cell == 4 * number + place;
                    Check.same("sound()", belt.sound(cell / 4, cell % 4), isIt ? 60 : cell + 1);
                    Check.same("carbon()", belt.carbon(cell / 4, cell % 4), cell + 1);
                    Check.same("cellOf()", belt.cellOf(cell / 4, cell % 4), cell);
                    Check.same("owner()", belt.owner(cell), cell / 4);
                }
                Check.same("corrected()", belt.corrected(), 1);
                Check.same("head()", belt.head(), head);
                Check.same("spoken()", belt.spoken(), 12);
                Check.same("lost()", belt.lost(number), 0);
                Check.same("playing()", belt.playing(), 1);
                Check.same("place()", belt.place(), 1);
            }
        }
    }

    private static void none() {
        int none = DictationBelt.NONE;
        Check.same("NONE", none, -1);
        DictationBelt belt = new DictationBelt();
        Check.same("running()", belt.running(), none);
        Check.same("owner()", belt.owner(0), none);
        Check.same("playing()", belt.playing(), none);
        Check.same("place()", belt.place(), none);
        Check.same("nextLoser()", belt.nextLoser(), none);
        Belts.then(belt, "b;g0");
        Check.same("sound()", belt.sound(0, 0), none);
        Check.same("cellOf()", belt.cellOf(0, 0), none);
        Check.same("carbon()", belt.carbon(0, 0), none);
        Check.same("play()", belt.play(), none);
    }

    /** Four recordings of 4, 3, 2 and 1 cells, with losses of 3, 1, 2 and 0; flags at 1 and 3. */
    private static DictationBelt ofFour() {
        DictationBelt belt = Belts.after("b;r7=1;b;r4=2;b;r4=3;h", "@0", "b;r3=4;h", "@7", "b;s5;h",
                "@11", "b;r2=6;h", "e3;e3;e3", "@20", "b;s40;f1;f3");
        belt.correct(0, 1, 10);
        return belt;
    }

    private static void lengths() {
        for (int number = 0; number < 4; number++) {
            Check.same("length(" + number + ")", ofFour().length(number), 4 - number);
        }
        DictationBelt belt = Belts.after("b");
        for (int cells = 0; cells < 32; cells++) {
            Check.same("length()", belt.length(0), cells);
            belt.speak(1);
        }
        Check.same("length() of all cells", belt.length(0), 32);
    }

    private static void sounds() {
        DictationBelt belt = ofFour();
        Check.same("sounds of 0", Belts.sounds(belt, 0), "1 10 1 1");
        Check.same("sounds of 1", Belts.sounds(belt, 1), "2 2 2");
        Check.same("sounds of 2", Belts.sounds(belt, 2), "3 3");
        Check.same("sounds of 3", Belts.sounds(belt, 3), "40");
    }

    private static void cells() {
        DictationBelt belt = ofFour();
        Check.same("cells of 0", Belts.cells(belt, 0), "3 4 5 6");
        Check.same("cells of 1", Belts.cells(belt, 1), "8 9 10");
        Check.same("cells of 2", Belts.cells(belt, 2), "13 14");
        Check.same("cells of 3", Belts.cells(belt, 3), "20");
    }

    private static void flags() {
        for (int pattern = 0; pattern < 16; pattern++) {
            DictationBelt belt = ofFour();
            for (int number = 0; number < 4; number++) {
                belt.setFlag(number, (pattern >> number & 1) == 1);
            }
            for (int number = 0; number < 4; number++) {
                Check.same("hasFlag(" + number + ")", belt.hasFlag(number),
                        (pattern >> number & 1) == 1);
            }
        }
    }

    private static void losses() {
        int[] due = {3, 1, 2, 0};
        for (int number = 0; number < 4; number++) {
            Check.same("lost(" + number + ")", ofFour().lost(number), due[number]);
        }
    }

    private static void owners() {
        DictationBelt belt = ofFour();
        int[] due = new int[32];
        Arrays.fill(due, -1);
        for (int number = 0; number < 4; number++) {
            for (int place = 0; place < belt.length(number); place++) {
                due[belt.cellOf(number, place)] = number;
            }
        }
        for (int cell = 0; cell < 32; cell++) {
            Check.same("owner(" + cell + ")", belt.owner(cell), due[cell]);
        }
    }

    private static void carbons() {
        DictationBelt belt = ofFour();
        belt.correct(2, 1, 11);
        belt.correct(2, 1, 12);
        int[] spoken = {1, 2, 3, 40};
        for (int number = 0; number < 4; number++) {
            for (int place = 0; place < belt.length(number); place++) {
                Check.same("carbon(" + number + ", " + place + ")", belt.carbon(number, place),
                        spoken[number]);
            }
        }
    }

    private static void losesNext() {
        for (String[] texts : STOPPED) {
            DictationBelt belt = Belts.after(texts);
            int due = nextLoser(Belts.after(texts));
            Check.same("nextLoser(), none running", belt.nextLoser(), due);
            belt.begin();
            Check.same("nextLoser(), one running", belt.nextLoser(), due);
        }
    }

    /** Speaks until a recording loses a cell; until then all of them keep their numbers. */
    private static int nextLoser(DictationBelt belt) {
        int recordings = belt.recordings();
        int[] owners = new int[32];
        for (int cell = 0; cell < 32; cell++) {
            owners[cell] = belt.owner(cell);
        }
        belt.begin();
        for (int left = belt.room(); left > 0; left--) {
            int loser = owners[belt.speak(1)];
            if (loser != -1) {
                boolean isGone = belt.gone() > 0;
                Check.holds("somebody lost a cell", isGone || belt.lost(loser) > 0);
                Check.same("recordings()", belt.recordings(), isGone ? recordings : recordings + 1);
                return loser;
            }
        }
        return -1;
    }

    private static void predictsLosses() {
        for (String[] texts : STOPPED) {
            int recordings = Belts.after(texts).recordings();
            for (int number = 0; number < recordings; number++) {
                for (int sounds = 1; sounds <= 32; sounds++) {
                    DictationBelt spoken = Belts.after(texts);
                    spoken.begin();
                    Check.same("lossOf(" + number + ", " + sounds + "), none running",
                            Belts.after(texts).lossOf(number, sounds),
                            ForecastEdges.cellsThatAreLost(spoken, number, sounds));
                }
            }
        }
    }

    private static void predictsGone() {
        for (String[] texts : STOPPED) {
            for (int sounds = 1; sounds <= 32; sounds++) {
                DictationBelt belt = Belts.after(texts);
                int foretold = belt.goneAfter(sounds);
                int before = belt.recordings();
                belt.begin();
                for (int left = Math.min(sounds, belt.room()); left > 0; left--) {
                    belt.speak(1);
                }
                Check.same("goneAfter(" + sounds + "), none running", foretold,
                        before + 1 - belt.recordings());
            }
        }
    }

    private static void appendsBehind() {
        DictationBelt belt = Belts.after("b");
        Belts.write(belt, "s12");
        belt.run();
        Belts.write(belt, "s21");
        belt.run();
        Check.same("sounds by the order of the characters", Belts.sounds(belt, 0), "12 21");
        belt.append('s');
        belt.undo();
        belt.append('7');
        Check.same("run() of what was appended on both sides of undo()", belt.run(), 1);
        Check.same("sounds", Belts.sounds(belt, 0), "12 7");
        for (int code = 33; code <= 126; code++) {
            DictationBelt each = new DictationBelt();
            Check.same("append()", each.append(code), 1);
            Check.same("append()", each.append(code), 2);
            Check.same("firstError() of " + (char) code, each.firstError(),
                    "bhsrfuegpk".indexOf(code) < 0 ? 0 : 1);
        }
    }

    private static void empties() {
        DictationBelt belt = new DictationBelt();
        Belts.write(belt, "b;x");
        belt.clearText();
        Check.same("firstError() of nothing", belt.firstError(), 0);
        Check.same("run() of nothing", Edge.thrownBy(belt, DictationBelt::run),
                "IllegalArgumentException");
        Belts.write(belt, "b");
        Check.same("firstError() of what came later", belt.firstError(), 1);
        Check.same("run() of what came later", belt.run(), 1);
        Check.same("recordings()", belt.recordings(), 1);
    }

    /** An order text is cut at each length, and errors stand behind the cut. */
    private static void findsTheFirst() {
        String text = "b;r32=10;h;g0;p;k9;s0;s99;f1;u2;e3;r1=0;r29=5;b;b;h;p;k1;s7;s8;s9";
        for (int length = 0; length < LONGEST_TEXT; length++) {
            DictationBelt belt = new DictationBelt();
            Belts.write(belt, text.substring(0, length));
            Check.same("firstError() without one", belt.firstError(), length);
            while (belt.append('!') < LONGEST_TEXT) {
                Check.same("firstError() behind " + length, belt.firstError(), length);
            }
            Check.same("firstError() of 60", belt.firstError(), length);
        }
    }

    private static void executesInOrder() {
        isLike("b;s1;h;b;s2;g0;p;e1;f0", belt -> {
            belt.begin();
            belt.speak(1);
            belt.halt();
            belt.begin();
            belt.speak(2);
            belt.go(0);
            belt.play();
            belt.erase(1);
            belt.setFlag(0, true);
        });
        isLike("b;r3=4;f0;b;s5;u0;e0;g0;p;p;k1", belt -> {
            belt.begin();
            belt.speak(4);
            belt.speak(4);
            belt.speak(4);
            belt.setFlag(0, true);
            belt.begin();
            belt.speak(5);
            belt.setFlag(0, false);
            belt.erase(0);
            belt.go(0);
            belt.play();
            belt.play();
            belt.back(1);
        });
        isLike("b;s1;e0;b;s2;s3", belt -> {
            belt.begin();
            belt.speak(1);
            belt.erase(0);
            belt.begin();
            belt.speak(2);
            belt.speak(3);
        });
    }

    private static void isLike(String text, Consumer<DictationBelt> calls) {
        DictationBelt called = Belts.after("b;s50;s51;h", "@9");
        calls.accept(called);
        DictationBelt run = Belts.after("b;s50;s51;h", "@9");
        Check.same("run()", Belts.run(run, text), text.split(";").length);
        Check.same("digest() after " + text, run.digest(), called.digest());
    }

    private static void hashOfTheState() {
        DictationBelt one = Belts.after("b;s1;s2;f0");
        DictationBelt other = new DictationBelt();
        other.begin();
        other.speak(1);
        other.setFlag(0, true);
        other.speak(2);
        Check.same("digest() by another way", other.digest(), one.digest());
        Belts.write(one, "b;s1");
        Check.same("digest() with a buffer", one.digest(), other.digest());
        for (int call = 0; call < 9; call++) {
            one.setFlag(0, true);
        }
        Check.same("digest() with more saved states", one.digest(), other.digest());
    }

    private static void hashedValues() {
        for (String[] texts : STOPPED) {
            DictationBelt belt = Belts.after(texts);
            Check.same("digest()", belt.digest(), UndoEdges.dueDigest(belt));
            Belts.then(belt, "b", "g0;p");
            Check.same("digest() with a running one and a player", belt.digest(),
                    UndoEdges.dueDigest(belt));
            if (belt.room() > 0) {
                belt.speak(77);
            }
            Check.same("digest() after a sound", belt.digest(), UndoEdges.dueDigest(belt));
            belt.undo();
            Check.same("digest() after undo()", belt.digest(), UndoEdges.dueDigest(belt));
        }
        Check.same("digest() of four", ofFour().digest(), UndoEdges.dueDigest(ofFour()));
    }

    private static void hashIsReturned() {
        DictationBelt belt = ofFour();
        long hash = belt.digest();
        Check.same("digest() again", belt.digest(), hash);
        Check.same("digest() of a twin", ofFour().digest(), hash);
        Check.holds("the hash is a long one", hash != (int) hash);
    }
}
