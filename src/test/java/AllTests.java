/** Runs every test of the project; ends with exit code 1 if an answer is not as due. */
public final class AllTests {
    private AllTests() {
    }

    public static void main(String[] args) throws Exception {
        RecordingTests.runAll();
        QueryTests.runAll();
        PlayerTests.runAll();
        CorrectionTests.runAll();
        ForecastTests.runAll();
        OrderTextTests.runAll();
        UndoTests.runAll();
        TermEdges.runAll();
        RecordingEdges.runAll();
        QueryEdges.runAll();
        PlayerEdges.runAll();
        ForecastEdges.runAll();
        TextEdges.runAll();
        UndoEdges.runAll();
        SentenceTests.runAll();
        ParameterTests.runAll();
        ReadmeTests.runAll();
        FaceTests.runAll();
        if (args.length > 1) {
            LanguageTests.runAll(args[0]);
            DocumentTests.runAll(args[1], args[0]);
        }
        SweepTests.runAll();
        ModelTests.runAll();
        System.out.println(Check.done() + " checks of the project, " + Check.wrong() + " wrong");
        if (Check.wrong() != 0) {
            System.exit(1);
        }
    }
}
