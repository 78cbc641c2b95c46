import java.util.stream.IntStream;

/** Runs every test of the project; the closing line tells how many passed. */
public final class AllTests {
    private static final int MODEL_RUNS = 1000;

    private AllTests() {
    }

    public static void main(String[] args) {
        bounds();
        SetupTests.all();
        QuestionTests.all();
        ChangeTests.all();
        ClaimTests.all();
        AdviceTests.all();
        SampleTests.all();
        FullTests.all();
        LanguageTests.all();
        RoomTests.all();
        ReadmeTests.all();
        for (int from = 0; from < MODEL_RUNS; from += 100) {
            int first = from;
            Check.test("promises 1 to 52: random runs from " + first + " on, beside the plain model", () -> {
                Check.yes("every run", IntStream.range(first, first + 100).parallel().allMatch(AllTests::runBesideModel));
            });
        }
        if (!Check.close()) {
            System.exit(1);
        }
    }

    /** A test for each sentence of the document that names a bound. */
    static void bounds() {
        BoundsOfSetup.all();
        BoundsOfQuestions.all();
        BoundsOfChanges.all();
        BoundsOfClaims.all();
        BoundsOfAdvice.all();
        BoundsOfSamples.all();
        BoundsOfAllCalls.all();
        Document.nothingIsLeftOut();
    }

    private static boolean runBesideModel(int seed) {
        try {
            new ModelRuns(seed).run();
            return true;
        } catch (Exception wrong) {
            throw new AssertionError("run " + seed, wrong);
        }
    }
}
