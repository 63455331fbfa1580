import java.util.ArrayList;
import java.util.List;
import java.util.function.Consumer;
import java.util.function.Supplier;

/** The form of a test of one sentence of the document. */
final class Edge {
    static final Class<?> INDEX = IndexOutOfBoundsException.class;
    static final Class<?> RANGE = IllegalArgumentException.class;
    static final Class<?> STATE = IllegalStateException.class;
    static final int MIN = Integer.MIN_VALUE;
    static final int MAX = Integer.MAX_VALUE;
    private static final List<String> SENTENCES = new ArrayList<>();

    private Edge() {
    }

    /** What the tests have quoted so far. */
    static List<String> sentences() {
        return SENTENCES;
    }

    /** The test belongs to the sentence alone; what it finds wrong is printed with it. */
    static void test(String sentence, Runnable test) {
        SENTENCES.add(sentence);
        Check.setAbout(sentence);
        int before = Check.done();
        try {
            test.run();
        } catch (RuntimeException e) {
            Check.holds("the test ended with " + e, false);
        }
        Check.holds("something is tested", Check.done() > before);
        Check.setAbout("");
    }

    /**
     * The call on a belt so made throws just this exception, and changes nothing: what is seen
     * of the belt after it is what is seen of a twin without it, its saved states and its buffer
     * too. (A buffer is written before, lest an empty one hides that it was emptied.)
     */
    static void refuses(String what, Class<?> due, Supplier<DictationBelt> made,
            Consumer<DictationBelt> call) {
        refusesWithText(what, due, () -> withText(made.get()), call);
    }

    /** The same for the calls that read the buffer: it is left as it was made. */
    static void refusesWithText(String what, Class<?> due, Supplier<DictationBelt> made,
            Consumer<DictationBelt> call) {
        DictationBelt belt = made.get();
        Check.same(what, thrownBy(belt, call), due.getSimpleName());
        Check.same(what + ", the belt after it", seen(belt), seen(made.get()));
    }

    /** The call saves the state from before it, whether it changes something or not. */
    static void saves(String what, Supplier<DictationBelt> made, Consumer<DictationBelt> call) {
        DictationBelt belt = withText(made.get());
        DictationBelt twin = withText(made.get());
        int before = belt.savedStates();
        call.accept(belt);
        Check.same(what + ": savedStates()", belt.savedStates(), Math.min(6, before + 1));
        belt.undo();
        Check.same(what + ": digest() after undo()", belt.digest(), twin.digest());
        if (before < 6) {
            Check.same(what + ": the belt after undo()", seen(belt), seen(twin));
        }
    }

    /** The call saves the state, which it leaves as it is. */
    static void savesWithoutChange(String what, Supplier<DictationBelt> made,
            Consumer<DictationBelt> call) {
        DictationBelt belt = made.get();
        call.accept(belt);
        Check.same(what + ": digest()", belt.digest(), made.get().digest());
        saves(what, made, call);
    }

    private static DictationBelt withText(DictationBelt belt) {
        Belts.write(belt, "b;s7");
        return belt;
    }

    /** The short name of what the call throws, "nothing" if it returns. */
    static String thrownBy(DictationBelt belt, Consumer<DictationBelt> call) {
        try {
            call.accept(belt);
        } catch (RuntimeException e) {
            return e.getClass().getSimpleName();
        }
        return "nothing";
    }

    private static String seen(DictationBelt belt) {
        StringBuilder all = new StringBuilder();
        all.append(belt.usedShare()).append(' ').append(belt.digest());
        while (belt.savedStates() > 0) {
            belt.undo();
            all.append(' ').append(belt.savedStates()).append(' ').append(belt.digest());
        }
        all.append(' ').append(belt.firstError());
        all.append(' ').append(thrownBy(belt, DictationBelt::run)).append(' ').append(belt.digest());
        all.append(' ').append(belt.clearText());
        return all.toString();
    }
}
