import java.nio.charset.StandardCharsets;
import java.nio.file.Files;
import java.nio.file.Path;
import java.util.ArrayList;
import java.util.BitSet;
import java.util.List;
import java.util.regex.Pattern;

/** The document: a test of a bound names its promise and quotes a sentence, and no sentence may go without a test. */
final class Document {
    private static final Path PLACE = Path.of("../shared/DOC.md");
    private static final int PROMISES = 52;
    private static final int DESCRIPTION = 0;

    /** Sentences that name no bound, or whose bound is told by a sentence beside them that has a test. */
    private static final String[] WITHOUT_BOUND = {
        "Numbers.", "Donors.", "Declarations.", "Gifts.", "Refunds.", "Aid.", "Claims.", "Setup text.", "Samples.",
        "Money is counted in pence.", "N stands for a number:", "The constants:",
        "The constructor and the methods follow, a promise each: the signature, then what it does.",
        "Returns a property of a declaration.", "Returns a property of a gift.", "Returns a property of a part.",
        "Returns a property of a claim.", "Returns a number of the register.", "Returns a sum over the parts of a donor.",
        "Returns a part of a sample.", "Returns a byte of the output."
    };
    /** What a line may be that has no test: it names a parameter or an answer, and no bound of it. */
    private static final Pattern NAMES_ALONE = Pattern.compile(
            "(- )?`\\w+`: (number of (an?|the) [a-z ]+|new length)|Returns (the|its) [a-z ]+\\.");

    private static List<Section> sections;

    /** The lines of the description or of a promise, and which of their characters tests quote. */
    private static final class Section {
        final List<String> lines = new ArrayList<>();
        final List<BitSet> quoted = new ArrayList<>();

        void add(String line) {
            String text = line.trim().replaceAll("\\s+", " ");
            if (!text.isEmpty()) {
                lines.add(text);
                quoted.add(new BitSet());
            }
        }

        boolean quote(String sentence) {
            boolean found = false;
            for (int i = 0; i < lines.size(); i++) {
                for (int at = lines.get(i).indexOf(sentence); at >= 0; at = lines.get(i).indexOf(sentence, at + 1)) {
                    quoted.get(i).set(at, at + sentence.length());
                    found = true;
                }
            }
            return found;
        }

        /** Those stretches of its lines that nothing quotes, and that are not mere names. */
        List<String> leftOut() {
            List<String> stretches = new ArrayList<>();
            for (int i = 0; i < lines.size(); i++) {
                int at = quoted.get(i).nextClearBit(0);
                while (at < lines.get(i).length()) {
                    int end = quoted.get(i).nextSetBit(at);
                    String stretch = lines.get(i).substring(at, end < 0 ? lines.get(i).length() : end).trim();
                    if (!stretch.isEmpty() && !stretch.equals("-") && !NAMES_ALONE.matcher(stretch).matches()) {
                        stretches.add(stretch);
                    }
                    at = end < 0 ? lines.get(i).length() : quoted.get(i).nextClearBit(end);
                }
            }
            return stretches;
        }
    }

    private Document() {
    }

    /** A checkout without the document runs the tests of its sentences all the same. */
    private static boolean isThere() {
        return Files.exists(PLACE);
    }

    private static List<Section> sections() throws Exception {
        if (sections == null) {
            sections = new ArrayList<>();
            Section section = null;
            for (String line : Files.readString(PLACE, StandardCharsets.UTF_8).split("\n")) {
                if (line.equals("## Description") || line.startsWith("## Promise ")) {
                    section = new Section();
                    sections.add(section);
                } else if (line.startsWith("## ")) {
                    section = null;
                } else if (section != null && !isSignature(line)) {
                    section.add(line);
                }
            }
            Check.same("the promises of the document", sections.size() - 1, PROMISES);
        }
        return sections;
    }

    private static boolean isSignature(String line) {
        return line.matches("`.*\\(.*\\).*`");
    }

    /** A test of a sentence of a promise, or of the description as far as it binds this promise. */
    static void holds(int promise, String sentence, Check.Test test) {
        Check.test("promise " + promise + ", \"" + sentence + "\"", () -> {
            if (isThere()) {
                boolean ofPromise = sections().get(promise).quote(sentence);
                boolean ofDescription = sections().get(DESCRIPTION).quote(sentence);
                Check.yes("the sentence stands in the document", ofPromise || ofDescription);
            }
            test.run();
        });
    }

    /** To be called behind all tests of sentences. */
    static void nothingIsLeftOut() {
        for (int number = 0; number <= PROMISES && isThere(); number++) {
            int section = number;
            String name = section == DESCRIPTION ? "the description" : "promise " + section;
            Check.test(name + ": each sentence that names a bound has a test", () -> {
                for (String sentence : WITHOUT_BOUND) {
                    sections().get(section).quote(sentence);
                }
                List<String> leftOut = sections().get(section).leftOut();
                Check.yes("a test of " + leftOut, leftOut.isEmpty());
            });
        }
    }
}
