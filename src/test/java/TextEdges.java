import java.util.function.Supplier;

/** The boundaries that the document names under Order text and under the promises 33 to 36. */
final class TextEdges {
    /** Thirty orders in 59 characters. */
    private static final String THIRTY = "b;".repeat(29) + "b";
    private static final String FROM_0 = "0123456789";
    private static final String FROM_1 = "123456789";
    private static final String LETTERS = "bhsrfuegpk";

    private TextEdges() {
    }

    static void runAll() {
        Edge.test("The buffer contains at most 60 characters and is empty at first.",
                TextEdges::sixtyCharacters);
        Edge.test("An order text is one or more orders with \";\" between them:",
                TextEdges::ordersBetween);
        Edge.test("\"b\": like begin(); \"h\": like halt();", TextEdges::beginAndHalt);
        Edge.test("\"s\" and a sound from 0 to 99: like speak();", TextEdges::sounds);
        Edge.test("\"r\" and a number from 1 to 32, \"=\", and a sound: the sound is spoken so many"
                + " times, as one order;", TextEdges::repeats);
        Edge.test("\"f\", \"u\", \"e\" or \"g\" and a digit from 0 to 9: like setFlag() with true or"
                + " with false, erase(), and go() of a recording;", TextEdges::digitsOfRecordings);
        Edge.test("\"p\": like play(); \"k\" and a digit from 1 to 9: like back().",
                TextEdges::playAndBack);
        Edge.test("Numbers have no leading zeros.", TextEdges::leadingZeros);
        Edge.test("A character of the buffer is an error if no order text, however long, begins"
                + " with the characters before it and this character.", TextEdges::errors);
        Edge.test("33: Throws `IllegalArgumentException` if code is out of range",
                TextEdges::appendOutOfRange);
        Edge.test("33: Throws `IllegalStateException` if the buffer contains 60 characters",
                TextEdges::appendToSixty);
        Edge.test("33: Returns the new length of the buffer.", TextEdges::newLength);
        Edge.test("34: Returns the length that it had.", TextEdges::clearedLength);
        Edge.test("35: Returns the index of the first character that is an error; the length of"
                + " the buffer if there is none (also if the buffer is not a complete order text).",
                TextEdges::firstErrors);
        runPromise36();
    }

    private static void runPromise36() {
        Edge.test("36: up to the first one whose method would throw an exception",
                TextEdges::stopsAtTheFirst);
        Edge.test("36: (for \"r\": if fewer sounds could be spoken than it tells, and then none of"
                + " them is spoken)", TextEdges::repeatsWithoutRoom);
        Edge.test("36: and empties the buffer.", TextEdges::emptiesTheBuffer);
        Edge.test("36: Undoable, as one call, also if no order is executed.",
                TextEdges::runSavesOnce);
        Edge.test("36: Returns the number of orders that are executed.", TextEdges::executed);
        Edge.test("36: Throws `IllegalArgumentException` if the buffer is not a complete order"
                + " text (the buffer stays)", TextEdges::incomplete);
    }

    private static DictationBelt written(String text) {
        DictationBelt belt = new DictationBelt();
        Belts.write(belt, text);
        return belt;
    }

    private static void errorIs(String text, int due) {
        DictationBelt belt = written(text);
        Check.same("firstError() of " + text, belt.firstError(), due);
        Check.same("clearText() of " + text, belt.clearText(), text.length());
    }

    /** Behind the beginning each character from 33 to 126 is an error, but for the allowed ones. */
    private static void nextIsOneOf(String beginning, String allowed) {
        for (int code = 33; code <= 126; code++) {
            String text = beginning + (char) code;
            errorIs(text, allowed.indexOf(code) < 0 ? beginning.length() : text.length());
        }
    }

    private static void runIs(Supplier<DictationBelt> made, String text, int due) {
        DictationBelt belt = made.get();
        Belts.write(belt, text);
        Check.same("run() of " + text, belt.run(), due);
        Check.same("clearText() after " + text, belt.clearText(), 0);
    }

    private static void refusesRun(String text) {
        Edge.refusesWithText("run() of " + text, Edge.RANGE, () -> written(text),
                DictationBelt::run);
        DictationBelt belt = written(text);
        try {
            belt.run();
        } catch (IllegalArgumentException e) {
            Check.same("clearText() after run() of " + text, belt.clearText(), text.length());
        }
    }

    private static void sixtyCharacters() {
        DictationBelt belt = new DictationBelt();
        Check.same("firstError() at first", belt.firstError(), 0);
        for (int length = 1; length <= 60; length++) {
            Check.same("append()", belt.append('~'), length);
        }
        Edge.refusesWithText("append() of the 61st", Edge.STATE, () -> written("~".repeat(60)),
                full -> full.append('b'));
        Check.same("clearText() of 60", belt.clearText(), 60);
        Check.same("clearText() at first", new DictationBelt().clearText(), 0);
        Edge.refusesWithText("run() at first", Edge.RANGE, DictationBelt::new, DictationBelt::run);
        // The last character is the 60th: "4" is the second digit of the sound.
        DictationBelt whole = Belts.after("b");
        Belts.write(whole, "s1;".repeat(18) + "r3=34");
        Check.same("firstError() of 59", whole.firstError(), 59);
        Check.same("append() of the 60th", whole.append(';'), 60);
        Check.same("firstError() of 60", whole.firstError(), 60);
        runIs(() -> Belts.after("b"), "s1;".repeat(18) + "r10=34", 19);
    }

    private static void ordersBetween() {
        runIs(DictationBelt::new, "b", 1);
        runIs(DictationBelt::new, "b;s1", 2);
        runIs(DictationBelt::new, THIRTY, 30);
        refusesRun("");
        refusesRun(";");
        refusesRun(";b");
        refusesRun("b;");
        refusesRun("b;;h");
        refusesRun("bh");
        refusesRun("b,h");
        errorIs(";b", 0);
        errorIs("b;", 2);
        errorIs("b;;h", 2);
        errorIs("bh", 1);
        nextIsOneOf("", LETTERS);
        nextIsOneOf("b;", LETTERS);
        nextIsOneOf("s1;h;", LETTERS);
    }

    private static void beginAndHalt() {
        nextIsOneOf("b", ";");
        nextIsOneOf("h", ";");
        DictationBelt belt = Belts.after("b");
        Check.same("running() after b", belt.running(), 0);
        Belts.then(belt, "s1;b;s2");
        Check.same("running() after b of a second", belt.running(), 1);
        Belts.then(belt, "h");
        Check.same("running() after h", belt.running(), -1);
        runIs(DictationBelt::new, "h", 0);
        runIs(() -> Belts.after("b;s1;h"), "h", 0);
        runIs(Belts::ofTen, "b", 0);
        runIs(() -> Belts.after("b;s0;b;s1;b;s2;b;s3;b;s4;b;s5;b;s6;b;s7;b;s8;b"), "b;b;h", 3);
    }

    private static void sounds() {
        for (int sound = 0; sound <= 99; sound++) {
            DictationBelt belt = Belts.after("b;s" + sound);
            Check.same("sound() after s" + sound, belt.sound(0, 0), sound);
        }
        nextIsOneOf("s", FROM_0);
        nextIsOneOf("s0", ";");
        for (int sound = 1; sound <= 9; sound++) {
            nextIsOneOf("s" + sound, FROM_0 + ";");
            nextIsOneOf("s" + sound + "0", ";");
            nextIsOneOf("s" + sound + "9", ";");
        }
        refusesRun("s");
        refusesRun("s100");
        runIs(DictationBelt::new, "s1", 0);
        runIs(() -> Belts.after("b;s1;h"), "s1", 0);
        runIs(() -> Belts.after("b;r31=1"), "s1;s1", 1);
    }

    private static void repeats() {
        for (int times = 1; times <= 32; times++) {
            int sound = 3 * times;
            DictationBelt belt = Belts.after("b;r" + times + "=" + sound);
            Check.same("spoken() after r" + times, belt.spoken(), times);
            Check.same("length() after r" + times, belt.length(0), times);
            Check.same("sound() after r" + times, belt.sound(0, times - 1), sound);
            Check.same("savedStates() after r" + times, belt.savedStates(), 1);
        }
        runIs(() -> Belts.after("b"), "r1=0", 1);
        runIs(() -> Belts.after("b"), "r32=99", 1);
        nextIsOneOf("r", FROM_1);
        nextIsOneOf("r1", FROM_0 + "=");
        nextIsOneOf("r2", FROM_0 + "=");
        nextIsOneOf("r3", "012=");
        for (int times = 4; times <= 32; times++) {
            nextIsOneOf("r" + times, "=");
        }
        nextIsOneOf("r32=", FROM_0);
        nextIsOneOf("r1=0", ";");
        nextIsOneOf("r1=1", FROM_0 + ";");
        nextIsOneOf("r32=9", FROM_0 + ";");
        nextIsOneOf("r32=99", ";");
        for (String text : new String[] {"r", "r1", "r=1", "r0=1", "r33=1", "r1=", "r1=100"}) {
            refusesRun(text);
        }
    }

    private static void digitsOfRecordings() {
        for (int number = 0; number <= 9; number++) {
            DictationBelt belt = Belts.ofTen();
            Belts.then(belt, "f" + number);
            for (int other = 0; other <= 9; other++) {
                Check.same("hasFlag() after f" + number, belt.hasFlag(other), other == number);
            }
            Belts.then(belt, "u" + number);
            Check.same("hasFlag() after u" + number, belt.hasFlag(number), false);
            Belts.then(belt, "g" + number);
            Check.same("playing() after g" + number, belt.playing(), number);
            Check.same("place() after g" + number, belt.place(), 0);
            Belts.then(belt, "e" + number);
            Check.same("recordings() after e" + number, belt.recordings(), 9);
            Check.same("owner() after e" + number, belt.owner(number), -1);
        }
        for (String letter : new String[] {"f", "u", "e", "g"}) {
            nextIsOneOf(letter, FROM_0);
            nextIsOneOf(letter + "0", ";");
            nextIsOneOf(letter + "1", ";");
            nextIsOneOf(letter + "9", ";");
            refusesRun(letter);
            refusesRun(letter + "10");
            runIs(DictationBelt::new, letter + "0", 0);
            runIs(() -> Belts.after("b;s1;b;s2"), letter + "2", 0);
            runIs(() -> Belts.after("b;s1;b;s2"), letter + "1", 1);
            runIs(() -> Belts.after("b;s1;b;s2"), letter + "9", 0);
        }
        runIs(() -> Belts.after("b;s1;f0"), "e0", 0);
    }

    private static void playAndBack() {
        nextIsOneOf("p", ";");
        nextIsOneOf("k", FROM_1);
        for (int cells = 1; cells <= 9; cells++) {
            nextIsOneOf("k" + cells, ";");
            DictationBelt belt = Belts.after("b;r12=1;g0;p;p;p;p;p;p;p;p;p;p", "k" + cells);
            Check.same("place() after k" + cells, belt.place(), 10 - cells);
        }
        refusesRun("k");
        refusesRun("k0");
        refusesRun("k10");
        runIs(DictationBelt::new, "p", 0);
        runIs(DictationBelt::new, "k1", 0);
        runIs(() -> Belts.after("b;s1;g0"), "p;p;p", 3);
        runIs(() -> Belts.after("b;g0"), "p", 1);
        runIs(() -> Belts.after("b;s1;g0"), "k9;k1", 2);
    }

    private static void leadingZeros() {
        for (String text : new String[] {"s00", "s01", "s09", "s010", "r1=00", "r1=01", "r01=1",
            "r00=1", "f00", "k01", "u01", "e00", "g09"}) {
            refusesRun(text);
        }
        errorIs("s00", 2);
        errorIs("s09", 2);
        errorIs("r01=1", 1);
        errorIs("r1=00", 4);
        errorIs("f00", 2);
        errorIs("k01", 1);
        runIs(() -> Belts.after("b"), "s0;r1=0;r10=10;r20=0;f0;g0", 6);
    }

    private static void errors() {
        // Only a text of more than 60 characters begins with these, and that is enough.
        errorIs("b;".repeat(30), 60);
        errorIs("b;".repeat(29) + "r3", 60);
        errorIs("b;".repeat(29) + "rb", 59);
        errorIs("b;".repeat(29) + "b;", 60);
        errorIs("b;".repeat(29) + "bb", 59);
        errorIs("b;".repeat(28) + "r32=", 60);
        errorIs("b;".repeat(28) + "r33=", 58);
        // What an order does never makes its characters an error.
        errorIs("h;h;s99;r32=1;r32=1;e0;e0;g9;k9", 31);
    }

    private static void appendOutOfRange() {
        for (int code : new int[] {32, 31, 0, -1, 127, 128, 65_569, Edge.MIN, Edge.MAX}) {
            Edge.refusesWithText("append(" + code + ")", Edge.RANGE, () -> written("b"),
                    belt -> belt.append(code));
            Edge.refusesWithText("append(" + code + ") of the 61st", Edge.RANGE,
                    () -> written(THIRTY + ";"), belt -> belt.append(code));
        }
        DictationBelt belt = new DictationBelt();
        Check.same("append(33)", belt.append(33), 1);
        Check.same("append(126)", belt.append(126), 2);
    }

    private static void appendToSixty() {
        for (int code : new int[] {33, 'b', ';', 126}) {
            Edge.refusesWithText("append() of the 61st", Edge.STATE, () -> written(THIRTY + ";"),
                    belt -> belt.append(code));
        }
        Check.same("append() of the 60th", written(THIRTY).append(';'), 60);
        DictationBelt cleared = written(THIRTY + ";");
        cleared.clearText();
        Check.same("append() after clearText()", cleared.append('b'), 1);
        DictationBelt run = Belts.after("b");
        Belts.write(run, "s1;".repeat(18) + "r10=34");
        run.run();
        Check.same("append() after run()", run.append('b'), 1);
    }

    private static void newLength() {
        DictationBelt belt = new DictationBelt();
        for (int length = 1; length <= 60; length++) {
            Check.same("append()", belt.append(32 + length), length);
        }
        Check.same("savedStates() after append()", belt.savedStates(), 0);
        Check.same("digest() after append()", belt.digest(), new DictationBelt().digest());
    }

    private static void clearedLength() {
        for (int length = 0; length <= 60; length++) {
            DictationBelt belt = written("x".repeat(length));
            Check.same("clearText()", belt.clearText(), length);
            Check.same("clearText() again", belt.clearText(), 0);
            Check.same("firstError() after clearText()", belt.firstError(), 0);
            Check.same("savedStates() after clearText()", belt.savedStates(), 0);
            Belts.write(belt, "b");
            Check.same("run() after clearText()", belt.run(), 1);
        }
    }

    private static void firstErrors() {
        errorIs("", 0);
        errorIs("x", 0);
        errorIs("xb", 0);
        errorIs("b", 1);
        errorIs("bx", 1);
        errorIs("b;", 2);
        errorIs("b;x", 2);
        errorIs("b;x;x", 2);
        errorIs("r", 1);
        errorIs("r1", 2);
        errorIs("r1=", 3);
        errorIs("r1=1", 4);
        errorIs("r1;", 2);
        errorIs("r1=;", 3);
        errorIs("x".repeat(60), 0);
        errorIs(THIRTY + "x", 59);
        for (String text : new String[] {"", "b", "x", "b;", "r1=", THIRTY + ";"}) {
            DictationBelt belt = Belts.after("b;s1");
            Belts.write(belt, text);
            long digest = belt.digest();
            int first = belt.firstError();
            Check.same("firstError() again", belt.firstError(), first);
            Check.same("digest() after firstError()", belt.digest(), digest);
            Check.same("savedStates() after firstError()", belt.savedStates(), 1);
        }
    }

    private static void stopsAtTheFirst() {
        // Behind each order that would throw stands one that could be executed.
        for (String order : new String[] {"h", "s1", "r1=1", "f0", "u0", "e0", "g0", "p", "k1"}) {
            DictationBelt belt = new DictationBelt();
            Check.same("run() of " + order + ";b", Belts.run(belt, order + ";b"), 0);
            Check.same("digest() after " + order, belt.digest(), new DictationBelt().digest());
            DictationBelt third = Belts.after("b;s5;b;s6;f1;h");
            Check.same("run() of e1 as the second", Belts.run(third, "g0;e1;" + order), 1);
            Check.same("playing() of the first", third.playing(), 0);
            Check.same("recordings() of the second", third.recordings(), 2);
        }
        DictationBelt ten = Belts.ofTen();
        Check.same("run() of b with ten", Belts.run(ten, "f0;b;h"), 1);
        Check.same("hasFlag(0)", ten.hasFlag(0), true);
        Check.same("running()", ten.running(), 9);
        DictationBelt full = Belts.after("b;r31=1");
        Check.same("run() up to a full belt", Belts.run(full, "s2;s3;h"), 1);
        Check.same("sound(0, 31)", full.sound(0, 31), 2);
        Check.same("running() on a full belt", full.running(), 0);
        // An order is judged when its turn comes: here the one before it makes it possible.
        runIs(DictationBelt::new, "b;s1;g0;p;k1;f0;u0;e0;b;h", 10);
    }

    private static void repeatsWithoutRoom() {
        for (int room = 0; room <= 32; room++) {
            String[] setUp = room == 32 ? new String[] {"b"}
                    : new String[] {"b;r" + (32 - room) + "=1;f0", "b"};
            DictationBelt belt = Belts.after(setUp);
            Check.same("room()", belt.room(), room);
            long before = belt.digest();
            if (room < 32) {
                Check.same("run() of one more", Belts.run(belt, "r" + (room + 1) + "=2;h"), 0);
                Check.same("digest() after one more", belt.digest(), before);
                Check.same("run() of 32", Belts.run(belt, "r32=2;h"), 0);
                Check.same("digest() after 32", belt.digest(), before);
            }
            if (room > 0) {
                Check.same("run() of just as many", Belts.run(belt, "r" + room + "=2"), 1);
                Check.same("room() after just as many", belt.room(), 0);
            }
        }
        runIs(() -> Belts.after("b;r32=1;b"), "r32=2", 1);
        runIs(() -> Belts.after("b;s1;h"), "r1=2", 0);
        DictationBelt partly = Belts.after("b;r30=1");
        Check.same("run() of the second r", Belts.run(partly, "r1=2;r2=3;s4"), 1);
        Check.same("spoken() by the first r", partly.spoken(), 31);
    }

    private static void emptiesTheBuffer() {
        DictationBelt belt = written("b;s1");
        belt.run();
        Check.same("clearText() after all", belt.clearText(), 0);
        Belts.write(belt, "h;h;b");
        belt.run();
        Check.same("clearText() after one of three", belt.clearText(), 0);
        Belts.write(belt, "h");
        belt.run();
        Check.same("append() after none", belt.append('b'), 1);
        belt.undo();
        Check.same("clearText() after undo()", belt.clearText(), 1);
        Belts.write(belt, THIRTY);
        belt.run();
        Check.same("firstError() after thirty", belt.firstError(), 0);
    }

    private static void runSavesOnce() {
        for (String text : new String[] {"b", "h;b", THIRTY, "b;s1;s2;s3;s4;s5;s6;s7;s8;h",
            "e5", "b;r9=1;b;r9=2;h;g0;p;k1;f1"}) {
            for (int calls = 0; calls <= 7; calls++) {
                DictationBelt belt = new DictationBelt();
                for (int call = 1; call <= calls; call++) {
                    belt.moveHead(call);
                }
                long before = belt.digest();
                Belts.run(belt, text);
                Check.same("savedStates() after " + text, belt.savedStates(),
                        Math.min(6, calls + 1));
                Check.same("undo() of " + text, belt.undo(), Math.min(6, calls + 1) - 1);
                Check.same("digest() after undo() of " + text, belt.digest(), before);
                Check.same("clearText() after undo() of " + text, belt.clearText(), 0);
            }
        }
    }

    private static void executed() {
        runIs(DictationBelt::new, "h", 0);
        runIs(DictationBelt::new, "b", 1);
        runIs(DictationBelt::new, "b;h;h", 2);
        runIs(DictationBelt::new, THIRTY, 30);
        runIs(DictationBelt::new, "b;r32=1;s1;h", 2);
        runIs(DictationBelt::new, "b;r32=1;b;r32=2;b;r32=3;b;r32=4", 8);
    }

    private static void incomplete() {
        String whole = "b;s10;r31=99;f0;u0;g0;p;k1;e0;b;s0;r1=1;h";
        for (int length = 0; length < whole.length(); length++) {
            String start = whole.substring(0, length);
            boolean isComplete = length > 0 && start.charAt(length - 1) != ';'
                    && !start.matches(".*(^|;)([srfuegk]|r[0-9]+=?)");
            if (!isComplete) {
                refusesRun(start);
                // The buffer stays: it is completed, and then runs.
                DictationBelt belt = written(start);
                String thrown = "";
                try {
                    belt.run();
                } catch (IllegalArgumentException e) {
                    thrown = "as due";
                }
                Check.same("run() of " + start, thrown, "as due");
                Belts.write(belt, whole.substring(length));
                Check.same("run() of the rest", belt.run(), 13);
            }
        }
        // An error stays one, whatever order texts stand behind it.
        for (String text : new String[] {"x;b", "xb", "!!b", "b;x;h", "bx;h", "b!!b", ";;b", "b;;;b",
            "s100;b", "s01;b", "r33=1;b", "r1=;b", "k0;b", "f10;b", "~~~~b;h"}) {
            refusesRun(text);
        }
        refusesRun("x");
        refusesRun("b;x");
        refusesRun("bx");
        refusesRun(THIRTY + "x");
        refusesRun(THIRTY + ";");
        refusesRun("B");
    }
}
