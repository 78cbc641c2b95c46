/** Runs every test of the project; the closing line tells how many passed. */
public final class AllTests {
    private static final int MODEL_RUNS = 1000;

    private AllTests() {
    }

    public static void main(String[] args) {
        SetupTests.all();
        QuestionTests.all();
        ChangeTests.all();
        ClaimTests.all();
        AdviceTests.all();
        SampleTests.all();
        FullTests.all();
        LanguageTests.all();
        RoomTests.all();
        for (int from = 0; from < MODEL_RUNS; from += 100) {
            int first = from;
            Check.test("promises 1 to 52: random runs from " + first + " on, beside the plain model", () -> {
                for (int seed = first; seed < first + 100; seed++) {
                    new ModelRuns(seed).run();
                }
            });
        }
        if (!Check.close()) {
            System.exit(1);
        }
    }
}
