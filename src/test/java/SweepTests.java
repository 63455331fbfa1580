import java.lang.reflect.Method;
import java.lang.reflect.Modifier;
import java.util.ArrayList;
import java.util.List;

/** Every call with every number next to a boundary, on belts in many states, beside the model. */
final class SweepTests {
    private static final int[] NUMBERS = {Edge.MIN, Edge.MIN + 1, -33, -32, -2, -1, 0, 1, 2, 3, 8, 9,
        10, 11, 30, 31, 32, 33, 34, 60, 98, 99, 100, 101, 126, 127, Edge.MAX - 1, Edge.MAX};
    /** Each belt is made by texts of orders; "@" and a cell moves the head, "~" begins a buffer. */
    private static final String[][] BELTS = {
        {},
        {"b"},
        {"b;s1;s2;g0;p"},
        {"b;s1;s2;f0;g0;p;p"},
        {"@31", "b;s1;s2;h", "@31", "b;s3"},
        {"b;r32=1;g0;p;p;p"},
        {"b;r32=1;h"},
        {"b;r32=1;f0;h"},
        {"b;r16=1;f0;b;r15=2;f1;b;g2"},
        {"b;s0;b;s1;b;s2;b;s3;b;s4;b;s5;b;s6;b;s7;b;s8;b;s9"},
        {"b;s0;b;s1;b;s2;b;s3;b;s4;b;s5;b;s6;b;s7;b;s8;b", "g9"},
        {"b;s0;b;s1;b;s2;b;s3;b;s4;b;s5;b;s6;b;s7;b;s8;b;s9;h;g8", "@0"},
        {"b;r9=1;b;r9=2;f1;b;r9=3;h;g0;p", "@4", "b;r2=4", "h", "@1", "b"},
        {"b", "s1", "s2", "h", "@0", "b", "s3", "~s"},
        {"b;s1", "~b;s2;h"},
    };
    /** Fewer than the calls for which an object is promised, with those that make it. */
    private static final int MOST_PROBES = 100;

    private final String[] texts;
    private DictationBelt belt;
    private BeltModel model;
    private String before;
    private int probes;

    private SweepTests(String[] texts) throws Exception {
        this.texts = texts;
        make();
    }

    static void runAll() throws Exception {
        for (String[] texts : BELTS) {
            for (Method call : DictationBelt.class.getDeclaredMethods()) {
                if (Modifier.isPublic(call.getModifiers())) {
                    new SweepTests(texts).sweep(call, new ArrayList<>());
                }
            }
        }
    }

    private void sweep(Method call, List<Object> values) throws Exception {
        Class<?>[] types = call.getParameterTypes();
        if (values.size() == types.length) {
            probe(call.getName(), values.toArray());
        } else if (types[values.size()] == boolean.class) {
            sweep(call, with(values, true));
            sweep(call, with(values, false));
        } else {
            for (int number : NUMBERS) {
                sweep(call, with(values, number));
            }
        }
    }

    private static List<Object> with(List<Object> values, Object next) {
        List<Object> more = new ArrayList<>(values);
        more.add(next);
        return more;
    }

    private void probe(String name, Object... values) throws Exception {
        String what = String.join(" ", texts) + ": " + name + List.of(values);
        Check.same(what, ModelTests.answer(belt, name, values),
                ModelTests.answer(model, name, values));
        String after = seen(belt);
        Check.same(what + ", the belt after it", after, seen(model));
        probes++;
        if (!after.equals(before) || probes == MOST_PROBES) {
            make();
        }
    }

    private void make() throws Exception {
        belt = new DictationBelt();
        model = new BeltModel();
        for (String text : texts) {
            if (text.charAt(0) == '@') {
                both("moveHead", Integer.parseInt(text.substring(1)));
            } else {
                boolean isRun = text.charAt(0) != '~';
                for (int i = isRun ? 0 : 1; i < text.length(); i++) {
                    both("append", (int) text.charAt(i));
                }
                if (isRun) {
                    both("run");
                }
            }
        }
        before = seen(belt);
        probes = 0;
    }

    private void both(String name, Object... values) throws Exception {
        Check.same(String.join(" ", texts) + ": made by " + name,
                ModelTests.answer(belt, name, values), ModelTests.answer(model, name, values));
    }

    private static String seen(Object asked) throws Exception {
        return ModelTests.answer(asked, "digest") + " " + ModelTests.answer(asked, "savedStates")
                + " " + ModelTests.answer(asked, "firstError");
    }
}
