/** Promises 26 to 28. */
final class CorrectionTests {
    private static final Class<?> INDEX = IndexOutOfBoundsException.class;
    private static final Class<?> RANGE = IllegalArgumentException.class;

    private CorrectionTests() {
    }

    static void runAll() {
        promise26Correct();
        promise26CorrectThrows();
        promise27Carbon();
        promise28Corrected();
    }

    private static void promise26Correct() {
        DictationBelt belt = Belts.after("b;s1;b;s2;s3");
        Check.same("correct(1, 1, 99)", belt.correct(1, 1, 99), 3);
        Check.same("sounds", Belts.sounds(belt, 1), "2 99");
        Check.same("correct(1, 1, 0)", belt.correct(1, 1, 0), 99);
        Check.same("correct(0, 0, 4)", belt.correct(0, 0, 4), 1);
        Check.isUndoable("correct(0, 0, 5)", belt, () -> belt.correct(0, 0, 5));
        Check.isUndoable("correct() without a change", belt, () -> belt.correct(0, 0, 5));
        Check.same("spoken()", belt.spoken(), 3);
        Check.same("head()", belt.head(), 3);
    }

    private static void promise26CorrectThrows() {
        DictationBelt belt = Belts.after("b;s1;b;s2;f1");
        Check.refuses("correct(2, 0, 1)", belt, INDEX, () -> belt.correct(2, 0, 1));
        Check.refuses("correct(-1, 0, 1)", belt, INDEX, () -> belt.correct(-1, 0, 1));
        Check.refuses("correct(0, 1, 1)", belt, INDEX, () -> belt.correct(0, 1, 1));
        Check.refuses("correct(0, -1, 1)", belt, INDEX, () -> belt.correct(0, -1, 1));
        Check.refuses("correct(0, 1, 100)", belt, INDEX, () -> belt.correct(0, 1, 100));
        Check.refuses("correct(1, 1, 1), flagged", belt, INDEX, () -> belt.correct(1, 1, 1));
        Check.refuses("correct(0, 0, 100)", belt, RANGE, () -> belt.correct(0, 0, 100));
        Check.refuses("correct(0, 0, -1)", belt, RANGE, () -> belt.correct(0, 0, -1));
        Check.refuses("correct(1, 0, 100), flagged", belt, RANGE, () -> belt.correct(1, 0, 100));
        Check.refuses("correct(1, 0, 1), flagged", belt, IllegalStateException.class,
                () -> belt.correct(1, 0, 1));
    }

    private static void promise27Carbon() {
        DictationBelt belt = Belts.after("b;s1;s2");
        belt.correct(0, 1, 5);
        belt.correct(0, 1, 6);
        Check.same("carbon(0, 0)", belt.carbon(0, 0), 1);
        Check.same("carbon(0, 1)", belt.carbon(0, 1), 2);
        Check.same("carbon(0, 2)", belt.carbon(0, 2), -1);
        Check.same("carbon(0, max)", belt.carbon(0, Integer.MAX_VALUE), -1);
        Check.refuses("carbon(1, 0)", belt, INDEX, () -> belt.carbon(1, 0));
        Check.refuses("carbon(-1, 0)", belt, INDEX, () -> belt.carbon(-1, 0));
        Check.refuses("carbon(0, -1)", belt, INDEX, () -> belt.carbon(0, -1));
        belt.halt();
        belt.moveHead(1);
        Belts.run(belt, "b;s7");
        Check.same("carbon() of a cell spoken anew", belt.carbon(1, 0), 7);
    }

    private static void promise28Corrected() {
        DictationBelt belt = Belts.after("b;s1;s2;b;s3;h");
        belt.correct(0, 0, 9);
        belt.correct(1, 0, 9);
        Check.same("corrected()", belt.corrected(), 2);
        belt.correct(0, 0, 8);
        Check.same("corrected() twice", belt.corrected(), 2);
        belt.correct(0, 0, 1);
        Check.same("corrected() back to the carbon", belt.corrected(), 1);
        belt.correct(0, 0, 7);
        belt.erase(1);
        Check.same("corrected() after erase()", belt.corrected(), 1);
        belt.moveHead(0);
        Belts.run(belt, "b;s5");
        Check.same("corrected() after a loss", belt.corrected(), 0);
    }
}
