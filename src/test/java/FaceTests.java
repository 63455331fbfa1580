import java.lang.reflect.Constructor;
import java.lang.reflect.Field;
import java.lang.reflect.Method;
import java.lang.reflect.Modifier;
import java.util.TreeSet;

/** The public face, and what LANGUAGE.md asks of the members. */
final class FaceTests {
    private static final String[] FACE = {
        "int begin() IllegalStateException",
        "int halt() IllegalStateException",
        "int speak(int) IllegalArgumentException IllegalStateException",
        "boolean setFlag(int boolean) IndexOutOfBoundsException",
        "int erase(int) IndexOutOfBoundsException IllegalStateException",
        "int moveHead(int) IndexOutOfBoundsException IllegalStateException",
        "int recordings()", "int running()", "int head()",
        "int length(int) IndexOutOfBoundsException",
        "int sound(int int) IndexOutOfBoundsException",
        "int cellOf(int int) IndexOutOfBoundsException",
        "boolean hasFlag(int) IndexOutOfBoundsException",
        "int lost(int) IndexOutOfBoundsException",
        "int owner(int) IndexOutOfBoundsException",
        "int free()", "int spoken()", "int gone()", "double usedShare()",
        "int go(int) IndexOutOfBoundsException",
        "int play() IllegalStateException",
        "int back(int) IllegalArgumentException IllegalStateException",
        "int playing()", "int place()",
        "int correct(int int int) IndexOutOfBoundsException IllegalArgumentException"
            + " IllegalStateException",
        "int carbon(int int) IndexOutOfBoundsException",
        "int corrected()", "int room()", "int nextLoser()",
        "int lossOf(int int) IndexOutOfBoundsException IllegalArgumentException",
        "int goneAfter(int) IllegalArgumentException",
        "int append(int) IllegalArgumentException IllegalStateException",
        "int clearText()", "int firstError()",
        "int run() IllegalArgumentException",
        "int undo() IllegalStateException",
        "int savedStates()", "long digest()",
    };

    private FaceTests() {
    }

    static void runAll() {
        faceIsTheDocuments();
        otherMembersArePrivate();
        Check.same("NONE", DictationBelt.NONE, -1);
    }

    private static void faceIsTheDocuments() {
        TreeSet<String> due = new TreeSet<>();
        for (String line : FACE) {
            due.add(line);
        }
        TreeSet<String> got = new TreeSet<>();
        for (Method method : DictationBelt.class.getDeclaredMethods()) {
            if (Modifier.isPublic(method.getModifiers())) {
                got.add(described(method));
            }
        }
        Check.same("the public methods", got.toString(), due.toString());
        Check.same("the constructors", DictationBelt.class.getDeclaredConstructors().length, 1);
        Check.same("the public constructors", DictationBelt.class.getConstructors().length, 1);
        Check.same("the public fields", DictationBelt.class.getFields().length, 1);
        Check.holds("the class is final", Modifier.isFinal(DictationBelt.class.getModifiers()));
    }

    private static String described(Method method) {
        StringBuilder line = new StringBuilder();
        line.append(method.getReturnType().getSimpleName()).append(' ');
        line.append(method.getName()).append('(').append(names(method.getParameterTypes()));
        line.append(") ").append(names(method.getExceptionTypes()));
        return line.toString().trim();
    }

    private static String names(Class<?>[] types) {
        StringBuilder all = new StringBuilder();
        for (Class<?> type : types) {
            all.append(type.getSimpleName()).append(' ');
        }
        return all.toString().trim();
    }

    private static void otherMembersArePrivate() {
        TreeSet<String> publicNames = new TreeSet<>();
        for (Method method : DictationBelt.class.getMethods()) {
            publicNames.add(method.getName());
        }
        for (Method method : DictationBelt.class.getDeclaredMethods()) {
            int how = method.getModifiers();
            if (!Modifier.isPublic(how)) {
                Check.holds(method + " is private", Modifier.isPrivate(how));
                Check.holds(method + " has a name of its own",
                        !publicNames.contains(method.getName()));
            }
        }
        fieldsAreInside(DictationBelt.class);
        for (Class<?> inside : DictationBelt.class.getDeclaredClasses()) {
            Check.holds(inside + " is static", Modifier.isStatic(inside.getModifiers()));
            Check.holds(inside + " is not public", !Modifier.isPublic(inside.getModifiers()));
            fieldsAreInside(inside);
            for (Method method : inside.getDeclaredMethods()) {
                Check.holds(method + " has a name of its own",
                        !publicNames.contains(method.getName()));
            }
            for (Constructor<?> made : inside.getDeclaredConstructors()) {
                Check.holds(made + " is not public", !Modifier.isPublic(made.getModifiers()));
            }
        }
    }

    private static void fieldsAreInside(Class<?> owner) {
        int own = 0;
        for (Field field : owner.getDeclaredFields()) {
            int how = field.getModifiers();
            if (Modifier.isStatic(how)) {
                Check.holds(field + " is final", Modifier.isFinal(how));
            } else {
                own++;
                Check.holds(field + " is not public", !Modifier.isPublic(how));
            }
            if (owner == DictationBelt.class && !field.getName().equals("NONE")) {
                Check.holds(field + " is private", Modifier.isPrivate(how));
            }
        }
        Check.holds(owner + " has at most twenty fields", own <= 20);
    }
}
