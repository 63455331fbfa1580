import java.io.IOException;
import java.nio.file.Files;
import java.nio.file.Path;
import java.util.ArrayList;
import java.util.Arrays;
import java.util.List;
import java.util.regex.Matcher;
import java.util.regex.Pattern;

/**
 * Holds the tests and the class against the document itself: what the tests quote stands in it,
 * each sentence of it is quoted by a test, and the face is the one that it shows.
 */
final class DocumentTests {
    private static final int PROMISES = 39;
    private static final Pattern PROMISE = Pattern.compile("## Promise (\\d+): (.*)");
    private static final Pattern SIGNATURE = Pattern.compile("`([^`]*\\([^`]*)`: (.*)");
    private static final Pattern NUMBERED = Pattern.compile("(\\d+): (.*)");
    private static final Pattern PUBLIC = Pattern.compile("    public \\w+ (\\w+)\\(.*");
    private static final String[] HEADINGS = {
        "recording.", "begin halt speak setFlag erase moveHead",
        "queries.", "recordings running head length sound cellOf hasFlag lost owner free spoken gone"
            + " usedShare",
        "player.", "go play back playing place",
        "corrections.", "correct carbon corrected",
        "forecasts; they change nothing.", "room nextLoser lossOf goneAfter",
        "order text.", "append clearText firstError run",
        "undo.", "undo savedStates digest",
    };

    private final List<String> source;
    private final String flatSource;
    /** What each promise says, line by line; at 0 what stands before the promises. */
    private final List<List<String>> lines = new ArrayList<>();
    private final List<String> face = new ArrayList<>();
    private final List<String> signatures = new ArrayList<>();

    private DocumentTests(String documentFile, String classFile) throws IOException {
        source = Files.readAllLines(Path.of(classFile));
        flatSource = String.join(" ", source).replaceAll("\\s+", " ");
        read(Files.readAllLines(Path.of(documentFile)));
    }

    /** Runs behind the tests that quote the document. */
    static void runAll(String documentFile, String classFile) throws IOException {
        DocumentTests tests = new DocumentTests(documentFile, classFile);
        tests.headingsStandInTheClass();
        tests.faceStandsInTheClass();
        tests.quotesStandInTheDocument();
        tests.everySentenceIsQuoted();
    }

    private void read(List<String> document) {
        lines.add(new ArrayList<>());
        boolean isFace = false;
        for (String line : document) {
            Matcher promise = PROMISE.matcher(line);
            Matcher signature = SIGNATURE.matcher(line);
            if (line.equals("## Not promised")) {
                return;
            } else if (line.startsWith("```")) {
                isFace = !isFace;
            } else if (isFace) {
                face.add(line);
            } else if (promise.matches()) {
                Check.same("the number of a promise", Integer.parseInt(promise.group(1)),
                        lines.size());
                lines.add(new ArrayList<>());
            } else if (lines.size() > 1 && signature.matches()) {
                signatures.add(signature.group(1));
                lines.get(lines.size() - 1).add(signature.group(2));
            } else if (!line.isBlank() && !line.startsWith("#")) {
                lines.get(lines.size() - 1).add(line);
            }
        }
    }

    /** "Ahead of the calls .. the interface says": so does the class, with its calls in this order. */
    private void headingsStandInTheClass() {
        for (int i = 0; i < HEADINGS.length; i += 2) {
            String heading = "---- " + HEADINGS[i];
            String calls = HEADINGS[i + 1];
            Edge.test("Ahead of the calls `" + calls.replace(" ", "`, `") + "` the interface says: "
                    + heading, () -> Check.same("the calls behind it", callsBehind(heading), calls));
        }
    }

    private String callsBehind(String heading) {
        String due = "    // " + heading.substring(0, heading.length() - 1);
        List<String> calls = new ArrayList<>();
        boolean isHere = false;
        for (String line : source) {
            if (line.startsWith("    // ----")) {
                isHere = line.equals(due);
            }
            Matcher call = PUBLIC.matcher(line);
            if (isHere && call.matches()) {
                calls.add(call.group(1));
            }
        }
        return String.join(" ", calls);
    }

    private void faceStandsInTheClass() {
        Check.same("the promises", lines.size() - 1, PROMISES);
        Check.same("the signatures", signatures.size(), PROMISES);
        int promise = 0;
        for (String line : face) {
            String due = line.trim().replaceFirst("\\);$", ")");
            boolean isCall = due.contains("(");
            if (isCall && promise < signatures.size()) {
                String signature = due.replaceFirst(";$", "").replaceFirst("^public ", "");
                Check.same("the signature of a promise", signatures.get(promise), signature);
                promise++;
                Check.holds("the class has " + signature,
                        flatSource.contains(" public " + signature + " {"));
            } else {
                Check.holds("the class has " + line, flatSource.contains(due));
            }
        }
        Check.same("the calls of the face", promise, PROMISES);
    }

    private static int promiseOf(String sentence) {
        Matcher numbered = NUMBERED.matcher(sentence);
        return numbered.matches() ? Integer.parseInt(numbered.group(1)) : 0;
    }

    private static String quoteOf(String sentence) {
        Matcher numbered = NUMBERED.matcher(sentence);
        return numbered.matches() ? numbered.group(2) : sentence;
    }

    private void quotesStandInTheDocument() {
        for (String sentence : Edge.sentences()) {
            int promise = promiseOf(sentence);
            String quote = quoteOf(sentence);
            boolean isFound = false;
            if (promise < lines.size()) {
                for (String line : lines.get(promise)) {
                    isFound |= line.contains(quote);
                }
            }
            Check.holds("the document says: " + sentence, isFound);
        }
    }

    private void everySentenceIsQuoted() {
        for (int promise = 0; promise < lines.size(); promise++) {
            for (String line : lines.get(promise)) {
                String left = unquoted(promise, line);
                Check.holds("promise " + promise + " has a test of: " + left,
                        left.matches("[-;, ]*"));
            }
        }
    }

    private static String unquoted(int promise, String line) {
        char[] signs = line.toCharArray();
        for (String sentence : Edge.sentences()) {
            String quote = quoteOf(sentence);
            int at = promiseOf(sentence) == promise ? line.indexOf(quote) : -1;
            if (at >= 0) {
                Arrays.fill(signs, at, at + quote.length(), ' ');
            }
        }
        return new String(signs);
    }
}
