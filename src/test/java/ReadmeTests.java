/** The example of README.md answers as it tells there. */
final class ReadmeTests {
    private ReadmeTests() {
    }

    static void runAll() {
        DictationBelt belt = new DictationBelt();
        Check.same("begin()", belt.begin(), 0);
        Check.same("speak(42)", belt.speak(42), 0);
        Check.same("setFlag(0, true)", belt.setFlag(0, true), false);
        Check.same("halt()", belt.halt(), 1);
        for (char sign : "b;r3=7;h".toCharArray()) {
            belt.append(sign);
        }
        Check.same("run()", belt.run(), 3);
        Check.same("go(1)", belt.go(1), 3);
        Check.same("play()", belt.play(), 7);
        Check.same("correct(1, 0, 8)", belt.correct(1, 0, 8), 7);
        Check.same("carbon(1, 0)", belt.carbon(1, 0), 7);
        Check.same("lossOf(1, 32)", belt.lossOf(1, 32), 3);
        Check.same("undo()", belt.undo(), 5);
        Check.same("sound(1, 0) after undo()", belt.sound(1, 0), 7);
    }
}
