import java.lang.reflect.InvocationTargetException;
import java.lang.reflect.Method;
import java.lang.reflect.Modifier;
import java.util.ArrayList;
import java.util.List;
import java.util.Random;

/** Long runs of chosen calls, each answered alike by the class and by the model. */
final class ModelTests {
    private static final int OBJECTS = 400;
    private static final int CALLS = 512;
    private static final String[] OFTEN = {"begin", "halt", "setFlag", "erase", "moveHead", "go",
        "play", "correct", "undo", "begin"};
    private static final String[] ORDERS = {"b", "h", "p", "s5", "s0", "s42", "r3=7", "r9=1",
        "r12=60", "r32=4", "f0", "f1", "f3", "u0", "u1", "u2", "e0", "e1", "e2", "e5", "g0", "g1",
        "g4", "k1", "k3", "k9"};
    private static final String SIGNS = "bhsrfuegpk0123456789=;x";

    private final DictationBelt belt = new DictationBelt();
    private final BeltModel model = new BeltModel();
    private final List<Method> calls = new ArrayList<>();
    private final int seed;
    private final Random random;
    private final String often;

    private ModelTests(int seed) {
        this.seed = seed;
        random = new Random(seed);
        often = OFTEN[seed % OFTEN.length];
        for (Method call : DictationBelt.class.getDeclaredMethods()) {
            if (Modifier.isPublic(call.getModifiers())) {
                calls.add(call);
            }
        }
        calls.sort((one, other) -> one.getName().compareTo(other.getName()));
    }

    static void runAll() throws Exception {
        for (int seed = 0; seed < OBJECTS; seed++) {
            new ModelTests(seed).runOne();
        }
    }

    /** Stops behind the first wrong answer: those that follow tell nothing new. */
    private void runOne() throws Exception {
        int wrong = Check.wrong();
        for (int done = 0; done < CALLS && Check.wrong() == wrong; done++) {
            int dice = random.nextInt(100);
            if (dice < 5) {
                runText();
            } else if (dice < 35) {
                both("speak", random.nextInt(100));
            } else if (dice < 50) {
                chosen(often);
            } else {
                chosen(calls.get(random.nextInt(calls.size())).getName());
            }
            both("digest");
            both("savedStates");
        }
    }

    private void chosen(String name) throws Exception {
        for (Method call : calls) {
            if (call.getName().equals(name)) {
                Class<?>[] types = call.getParameterTypes();
                Object[] values = new Object[types.length];
                for (int i = 0; i < types.length; i++) {
                    values[i] = types[i] == int.class ? number() : random.nextInt(3) != 0;
                }
                both(name, values);
            }
        }
    }

    private Object number() {
        int dice = random.nextInt(20);
        if (dice == 0) {
            return random.nextInt(140) - 5;
        }
        if (dice == 1) {
            return random.nextBoolean() ? Integer.MAX_VALUE : Integer.MIN_VALUE;
        }
        return random.nextInt(dice < 12 ? model.recordings() + 1 : 33);
    }

    private void runText() throws Exception {
        if (random.nextInt(8) != 0) {
            both("clearText");
        }
        String text = orderText();
        for (int i = 0; i < text.length(); i++) {
            both("append", (int) text.charAt(i));
        }
        both("firstError");
        both("run");
    }

    private String orderText() {
        StringBuilder text = new StringBuilder();
        int orders = 1 + random.nextInt(12);
        for (int i = 0; i < orders; i++) {
            text.append(i == 0 ? "" : ";").append(ORDERS[random.nextInt(ORDERS.length)]);
        }
        if (random.nextInt(6) == 0) {
            int at = random.nextInt(text.length());
            text.setCharAt(at, SIGNS.charAt(random.nextInt(SIGNS.length())));
        }
        return text.toString();
    }

    private void both(String name, Object... values) throws Exception {
        Check.same("object " + seed + ": " + name + List.of(values),
                answer(belt, name, values), answer(model, name, values));
    }

    /** What the call returns, or the name of what it throws. */
    static String answer(Object asked, String name, Object... values) throws Exception {
        Class<?>[] types = new Class<?>[values.length];
        for (int i = 0; i < values.length; i++) {
            types[i] = values[i] instanceof Boolean ? boolean.class : int.class;
        }
        try {
            return String.valueOf(asked.getClass().getDeclaredMethod(name, types)
                    .invoke(asked, values));
        } catch (InvocationTargetException e) {
            return e.getCause().getClass().getName();
        }
    }
}
