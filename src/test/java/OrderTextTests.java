/** Promises 33 to 36. */
final class OrderTextTests {
    private static final Class<?> RANGE = IllegalArgumentException.class;
    private static final Class<?> STATE = IllegalStateException.class;

    private OrderTextTests() {
    }

    static void runAll() {
        promise33Append();
        promise34ClearText();
        promise35FirstError();
        promise35FirstErrorOfEveryCharacter();
        promise36RunWantsACompleteText();
        promise36RunOfEachOrder();
        promise36RunStops();
        promise36RunOfRepeats();
        promise36RunIsUndoneAsOneCall();
    }

    private static void promise33Append() {
        DictationBelt belt = new DictationBelt();
        Check.same("append(33)", belt.append(33), 1);
        Check.same("append(126)", belt.append(126), 2);
        Check.refuses("append(32)", belt, RANGE, () -> belt.append(32));
        Check.refuses("append(127)", belt, RANGE, () -> belt.append(127));
        Check.refuses("append(-1)", belt, RANGE, () -> belt.append(-1));
        for (int length = 3; length <= 60; length++) {
            Check.same("append('b')", belt.append('b'), length);
        }
        Check.refuses("append('b') as the 61st", belt, STATE, () -> belt.append('b'));
        Check.refuses("append(32) as the 61st", belt, RANGE, () -> belt.append(32));
        Check.same("savedStates()", belt.savedStates(), 0);
        Check.same("clearText()", belt.clearText(), 60);
        Check.same("append('h') after clearText()", belt.append('h'), 1);
    }

    private static void promise34ClearText() {
        DictationBelt belt = new DictationBelt();
        Check.same("clearText() of nothing", belt.clearText(), 0);
        Belts.write(belt, "b;s");
        Check.same("clearText()", belt.clearText(), 3);
        Check.same("clearText() twice", belt.clearText(), 0);
        Check.same("firstError()", belt.firstError(), 0);
        Check.same("savedStates()", belt.savedStates(), 0);
        Belts.run(belt, "b");
        Belts.write(belt, "h");
        belt.undo();
        Check.same("clearText() after undo()", belt.clearText(), 1);
    }

    private static void firstErrorIs(String text, int due) {
        DictationBelt belt = new DictationBelt();
        Belts.write(belt, text);
        Check.same("firstError() of " + text, belt.firstError(), due);
        Check.same("clearText() of " + text, belt.clearText(), text.length());
    }

    private static void promise35FirstError() {
        firstErrorIs("", 0);
        firstErrorIs(";", 0);
        firstErrorIs("b;", 2);
        firstErrorIs("b;;", 2);
        firstErrorIs("bh", 1);
        firstErrorIs("s", 1);
        firstErrorIs("s;", 1);
        firstErrorIs("s0", 2);
        firstErrorIs("s00", 2);
        firstErrorIs("s0;", 3);
        firstErrorIs("s99", 3);
        firstErrorIs("s990", 3);
        firstErrorIs("s9;h", 4);
        firstErrorIs("r0", 1);
        firstErrorIs("r1", 2);
        firstErrorIs("r1;", 2);
        firstErrorIs("r10=", 4);
        firstErrorIs("r29=0", 5);
        firstErrorIs("r29=00", 5);
        firstErrorIs("r32=99", 6);
        firstErrorIs("r32=990", 6);
        firstErrorIs("r33=1", 2);
        firstErrorIs("r40=1", 2);
        firstErrorIs("r100=1", 3);
        firstErrorIs("r=1", 1);
        firstErrorIs("r1==", 3);
        firstErrorIs("r1=;", 3);
        firstErrorIs("f", 1);
        firstErrorIs("f9u0e5g1", 2);
        firstErrorIs("f9;u0;e5;g1", 11);
        firstErrorIs("f10", 2);
        firstErrorIs("k0", 1);
        firstErrorIs("k1;k9", 5);
        firstErrorIs("k10", 2);
        firstErrorIs("p1", 1);
        firstErrorIs("B", 0);
        firstErrorIs("b;x;h;x", 2);
        firstErrorIs("b;b;b;b;b;b;b;b;b;b;b;b;b;b;b;b;b;b;b;b;b;b;b;b;b;b;b;b;b;r3", 60);
    }

    /** Behind each beginning stands just the set of characters that may come next. */
    private static void promise35FirstErrorOfEveryCharacter() {
        nextIsOneOf("", "bhsrfuegpk");
        nextIsOneOf("b;", "bhsrfuegpk");
        nextIsOneOf("b", ";");
        nextIsOneOf("h", ";");
        nextIsOneOf("p", ";");
        nextIsOneOf("s", "0123456789");
        nextIsOneOf("s0", ";");
        nextIsOneOf("s1", "0123456789;");
        nextIsOneOf("s9", "0123456789;");
        nextIsOneOf("s10", ";");
        nextIsOneOf("r", "123456789");
        nextIsOneOf("r1", "0123456789=");
        nextIsOneOf("r2", "0123456789=");
        nextIsOneOf("r3", "012=");
        nextIsOneOf("r4", "=");
        nextIsOneOf("r9", "=");
        nextIsOneOf("r10", "=");
        nextIsOneOf("r5=", "0123456789");
        nextIsOneOf("r5=0", ";");
        nextIsOneOf("r5=6", "0123456789;");
        nextIsOneOf("r5=66", ";");
        nextIsOneOf("f", "0123456789");
        nextIsOneOf("u", "0123456789");
        nextIsOneOf("e", "0123456789");
        nextIsOneOf("g", "0123456789");
        nextIsOneOf("k", "123456789");
        nextIsOneOf("f0", ";");
        nextIsOneOf("k1", ";");
    }

    private static void nextIsOneOf(String beginning, String allowed) {
        for (int code = 33; code <= 126; code++) {
            DictationBelt belt = new DictationBelt();
            Belts.write(belt, beginning);
            belt.append(code);
            int due = beginning.length() + (allowed.indexOf(code) >= 0 ? 1 : 0);
            Check.same("firstError() of " + beginning + (char) code, belt.firstError(), due);
        }
    }

    private static void promise36RunWantsACompleteText() {
        String[] incomplete = {"", "b;", "s", "r", "r1", "r1=", "r10=", "f", "u", "e", "g", "k",
            "x", "b;;h", "s100", "r33=1", "b;s01", "k0", "b b", ";b", "r0=1"};
        for (String text : incomplete) {
            DictationBelt belt = new DictationBelt();
            Belts.write(belt, text.replace(" ", ""));
            int length = text.replace(" ", "").length();
            Check.refuses("run() of " + text, belt, RANGE, belt::run);
            Check.same("the buffer stays: " + text, belt.clearText(), length);
        }
    }

    private static void promise36RunOfEachOrder() {
        DictationBelt belt = new DictationBelt();
        Check.same("run() of b", Belts.run(belt, "b"), 1);
        Check.same("clearText() after run()", belt.clearText(), 0);
        Check.same("running()", belt.running(), 0);
        Check.same("run() of s", Belts.run(belt, "s0;s7;s42"), 3);
        Check.same("sounds", Belts.sounds(belt, 0), "0 7 42");
        Check.same("run() of r", Belts.run(belt, "r2=0;r11=98"), 2);
        Check.same("sounds", Belts.sounds(belt, 0), "0 7 42 0 0 98 98 98 98 98 98 98 98 98 98 98");
        Check.same("run() of f", Belts.run(belt, "f0"), 1);
        Check.same("hasFlag(0)", belt.hasFlag(0), true);
        Check.same("run() of u", Belts.run(belt, "u0"), 1);
        Check.same("hasFlag(0)", belt.hasFlag(0), false);
        Check.same("run() of h", Belts.run(belt, "h"), 1);
        Check.same("running()", belt.running(), -1);
        Check.same("run() of g", Belts.run(belt, "g0"), 1);
        Check.same("playing()", belt.playing(), 0);
        Check.same("run() of p", Belts.run(belt, "p;p;p;p;p"), 5);
        Check.same("place()", belt.place(), 5);
        Check.same("run() of k", Belts.run(belt, "k3"), 1);
        Check.same("place()", belt.place(), 2);
        Check.same("run() of k below 0", Belts.run(belt, "k9"), 1);
        Check.same("place()", belt.place(), 0);
        Check.same("run() of e", Belts.run(belt, "e0"), 1);
        Check.same("recordings()", belt.recordings(), 0);
        Check.same("free()", belt.free(), 32);
    }

    private static void stops(DictationBelt belt, String text, int due) {
        Check.same("run() of " + text, Belts.run(belt, text), due);
        Check.same("clearText() after " + text, belt.clearText(), 0);
    }

    private static void promise36RunStops() {
        stops(new DictationBelt(), "h;b", 0);
        stops(new DictationBelt(), "s1;b", 0);
        stops(new DictationBelt(), "r1=1;b", 0);
        stops(new DictationBelt(), "f0;b", 0);
        stops(new DictationBelt(), "u0;b", 0);
        stops(new DictationBelt(), "e0;b", 0);
        stops(new DictationBelt(), "g0;b", 0);
        stops(new DictationBelt(), "p;b", 0);
        stops(new DictationBelt(), "k1;b", 0);
        stops(new DictationBelt(), "b;f1;h", 1);
        stops(new DictationBelt(), "b;u9;h", 1);
        stops(new DictationBelt(), "b;g1;h", 1);
        stops(new DictationBelt(), "b;e1;h", 1);
        stops(new DictationBelt(), "b;f0;e0;u0", 2);
        DictationBelt belt = Belts.ofTen();
        stops(belt, "b;h", 0);
        Check.same("running() after it stops", belt.running(), 9);
        stops(belt, "h;b;g0", 1);
        Check.same("running() after it stops", belt.running(), -1);
        Check.same("playing() after it stops", belt.playing(), -1);
        stops(belt, "e9;b;b;g9", 4);
        Check.same("playing()", belt.playing(), 9);
    }

    private static void promise36RunOfRepeats() {
        DictationBelt belt = Belts.after("b;r10=1;f0;b;r10=2");
        stops(belt, "r13=3", 0);
        Check.same("spoken() if too many", belt.spoken(), 20);
        Check.same("head() if too many", belt.head(), 20);
        stops(belt, "r11=3;s3;s1", 2);
        Check.same("spoken() of as many as possible", belt.spoken(), 32);
        Check.same("room()", belt.room(), 0);
        stops(belt, "r1=1", 0);
        belt.undo();
        belt.undo();
        stops(belt, "r12=3;r1=1;h", 1);
        Check.same("running() after it stops", belt.running(), 1);
        DictationBelt losers = Belts.after("b;r10=1;b;r10=2;b");
        stops(losers, "r32=3", 1);
        Check.same("recordings() after r32", losers.recordings(), 1);
        Check.same("running() after r32", losers.running(), 0);
        Check.same("gone() after r32", losers.gone(), 2);
        Check.same("length(0) after r32", losers.length(0), 32);
        Check.same("cellOf(0, 0) after r32", losers.cellOf(0, 0), 20);
    }

    private static void promise36RunIsUndoneAsOneCall() {
        DictationBelt belt = Belts.after("b;s1");
        Belts.write(belt, "s2;b;s3;h;g0;p");
        long before = belt.digest();
        Check.same("run()", belt.run(), 6);
        Check.same("savedStates()", belt.savedStates(), 2);
        Check.same("undo()", belt.undo(), 1);
        Check.same("digest() after undo()", belt.digest(), before);
        Check.same("clearText() after undo()", belt.clearText(), 0);
        stops(belt, "e7", 0);
        Check.same("savedStates() after no order", belt.savedStates(), 2);
        Check.same("digest() after no order", belt.digest(), before);
        Check.same("undo() of no order", belt.undo(), 1);
    }
}
