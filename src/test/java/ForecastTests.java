/** Promises 29 to 32. */
final class ForecastTests {
    private static final Class<?> INDEX = IndexOutOfBoundsException.class;
    private static final Class<?> RANGE = IllegalArgumentException.class;

    private ForecastTests() {
    }

    static void runAll() {
        promise29Room();
        promise30NextLoser();
        promise31LossOf();
        promise31LossOfThrows();
        promise32GoneAfter();
        forecastsWithTen();
        forecastsOnAFullBelt();
    }

    private static void promise29Room() {
        DictationBelt belt = Belts.after("b;r4=1;b;r5=2;f1;b;r6=3");
        Check.same("room() with a running one", belt.room(), 21);
        belt.halt();
        Check.same("room() with none running", belt.room(), 27);
        belt.setFlag(1, false);
        Check.same("room() without flags", belt.room(), 32);
        belt.begin();
        belt.setFlag(3, true);
        Check.same("room() with an empty running one", belt.room(), 32);
    }

    private static void promise30NextLoser() {
        DictationBelt belt = Belts.after("b;s1;b;s2;f1;b;s3;h");
        Check.same("nextLoser() round the belt", belt.nextLoser(), 0);
        belt.moveHead(0);
        Check.same("nextLoser() on the head", belt.nextLoser(), 0);
        belt.moveHead(1);
        Check.same("nextLoser() behind a flag", belt.nextLoser(), 2);
        belt.moveHead(31);
        Check.same("nextLoser() behind a free cell", belt.nextLoser(), 0);
        belt.erase(0);
        belt.begin();
        Check.same("nextLoser() of an empty running one", belt.nextLoser(), 1);
        belt = Belts.after("b;s1;s2");
        Check.same("nextLoser() with the running one alone", belt.nextLoser(), -1);
        belt.halt();
        Check.same("nextLoser() with none running", belt.nextLoser(), 0);
        belt.setFlag(0, true);
        Check.same("nextLoser() with flags alone", belt.nextLoser(), -1);
    }

    private static void promise31LossOf() {
        DictationBelt belt = Belts.after("b;r3=1;b;r4=2;f1;b;r5=3;h");
        belt.moveHead(1);
        Check.same("lossOf(0, 1)", belt.lossOf(0, 1), 1);
        Check.same("lossOf(0, 2)", belt.lossOf(0, 2), 2);
        Check.same("lossOf(0, 3)", belt.lossOf(0, 3), 2);
        Check.same("lossOf(2, 2)", belt.lossOf(2, 2), 0);
        Check.same("lossOf(2, 4)", belt.lossOf(2, 4), 2);
        Check.same("lossOf(2, 7)", belt.lossOf(2, 7), 5);
        Check.same("lossOf(0, 27)", belt.lossOf(0, 27), 2);
        Check.same("lossOf(0, 28)", belt.lossOf(0, 28), 3);
        Check.same("lossOf(0, 32), more than possible", belt.lossOf(0, 32), 3);
        Check.same("lossOf(1, 32), flagged", belt.lossOf(1, 32), 0);
        belt.begin();
        belt.speak(9);
        Check.same("lossOf() of the running one", belt.lossOf(3, 32), 0);
        Check.same("lossOf(0, 1) after a sound", belt.lossOf(0, 1), 1);
        Check.same("digest() is the same", belt.digest(), belt.digest());
    }

    private static void promise31LossOfThrows() {
        DictationBelt belt = Belts.after("b;s1");
        Check.refuses("lossOf(1, 1)", belt, INDEX, () -> belt.lossOf(1, 1));
        Check.refuses("lossOf(-1, 1)", belt, INDEX, () -> belt.lossOf(-1, 1));
        Check.refuses("lossOf(1, 33)", belt, INDEX, () -> belt.lossOf(1, 33));
        Check.refuses("lossOf(0, 0)", belt, RANGE, () -> belt.lossOf(0, 0));
        Check.refuses("lossOf(0, 33)", belt, RANGE, () -> belt.lossOf(0, 33));
        Check.refuses("lossOf(0, min)", belt, RANGE, () -> belt.lossOf(0, Integer.MIN_VALUE));
    }

    private static void promise32GoneAfter() {
        DictationBelt belt = Belts.after("b;s1;s2;b;s3;f1;b;s4;s5;h");
        belt.moveHead(0);
        long digest = belt.digest();
        int saved = belt.savedStates();
        Check.same("goneAfter(1)", belt.goneAfter(1), 0);
        Check.same("goneAfter(2)", belt.goneAfter(2), 1);
        Check.same("goneAfter(3)", belt.goneAfter(3), 1);
        Check.same("goneAfter(4)", belt.goneAfter(4), 2);
        Check.same("goneAfter(32)", belt.goneAfter(32), 2);
        Check.same("digest() after forecasts", belt.digest(), digest);
        Check.same("savedStates() after forecasts", belt.savedStates(), saved);
        Check.refuses("goneAfter(0)", belt, RANGE, () -> belt.goneAfter(0));
        Check.refuses("goneAfter(33)", belt, RANGE, () -> belt.goneAfter(33));
        belt.begin();
        Check.same("goneAfter() with an empty running one", belt.goneAfter(32), 2);
        Belts.run(belt, "r2=6");
        Check.same("goneAfter() with a running one", belt.goneAfter(32), 1);
    }

    private static void forecastsWithTen() {
        DictationBelt belt = Belts.ofTen();
        belt.halt();
        Check.same("room() with ten", belt.room(), 32);
        Check.same("nextLoser() with ten", belt.nextLoser(), 0);
        Check.same("lossOf(9, 32) with ten", belt.lossOf(9, 32), 1);
        Check.same("goneAfter(32) with ten", belt.goneAfter(32), 10);
        Check.same("goneAfter(31) with ten", belt.goneAfter(31), 9);
    }

    private static void forecastsOnAFullBelt() {
        DictationBelt belt = Belts.after("b;r20=1;f0;b;r12=2");
        Check.same("room() on a full belt", belt.room(), 0);
        Check.same("nextLoser() on a full belt", belt.nextLoser(), -1);
        Check.same("lossOf(0, 32) on a full belt", belt.lossOf(0, 32), 0);
        Check.same("goneAfter(32) on a full belt", belt.goneAfter(32), 0);
    }
}
