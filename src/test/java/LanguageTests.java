import java.lang.reflect.Field;
import java.lang.reflect.Method;
import java.lang.reflect.Modifier;
import java.nio.charset.StandardCharsets;
import java.nio.file.Files;
import java.nio.file.Path;
import java.util.Arrays;
import java.util.Set;
import java.util.TreeSet;
import java.util.regex.Matcher;
import java.util.regex.Pattern;

/** The face of the class, and those rules of LANGUAGE.md that a look at the text can tell. */
final class LanguageTests {
    private static final Path PROGRAM = Path.of("src/main/java/AidRegister.java");

    private static final String I = "IndexOutOfBoundsException";
    private static final String A = "IllegalArgumentException";
    private static final String S = "IllegalStateException";

    /** Each method of the face: what it returns, its name, its parameters and its exceptions. */
    private static final String[] FACE = {
        "int appendInput int int int int int:", "boolean truncateInput int:", "int loadRegister:", "int errorCode:",
        "int errorOffset:", "int count int:" + A, "int declaration int int:" + I + A, "int gift int int:" + I + A,
        "int part int int int:" + I + A, "int reason int int:" + I, "int donor int int int:" + I + A, "int taxLimit int:" + I,
        "boolean isDeclared int int:" + I, "int coverage int int int:" + I + A, "int gap int int boolean:" + I,
        "int needless int:" + I, "int declare int int int:" + I + A + S, "int revoke int int:" + I + A,
        "int addGift int int int int:" + I + A + S, "int split int int int int:" + I + A + S, "int refund int int:" + I + A + S,
        "int setTaxLimit int int:" + I + A, "int setRate int:" + A, "int claim int:" + A + S, "int claimed int int:" + I + A,
        "int claimable int boolean:" + A, "int overclaimed:", "int totalAid:", "int lost int:" + A, "int mostUrgent:",
        "int limitedYears int:" + I, "int expiring int int:" + A, "int useOf int:" + I, "int benefitRoom int:" + I,
        "int topDonor int:" + A, "int bestYear:", "int longestSpan int:" + I, "int gainOf int int int:" + I + A,
        "int bestAsked:", "int neededSpan int boolean:" + I, "int gainOfSplit int int:" + I, "int sample int int int:" + A,
        "int wrongIn int int:" + A, "double estimate int int:" + A, "float aidShare:", "double meanGift:",
        "int printStatement int:" + I, "int outputByte int:", "int undo:", "int saveState:", "int restoreState:" + S
    };

    private LanguageTests() {
    }

    static void all() {
        Check.test("the face: methods", LanguageTests::methods);
        Check.test("the face: the class and its constants", LanguageTests::constants);
        Check.test("LANGUAGE rule 1: no private method bears the name of a public one", LanguageTests::privateNames);
        Check.test("LANGUAGE rules 2 to 13: words that must not stand in the program", LanguageTests::words);
        Check.test("LANGUAGE rule 11: sizes", LanguageTests::sizes);
    }

    private static void methods() {
        Set<String> found = new TreeSet<>();
        for (Method method : AidRegister.class.getDeclaredMethods()) {
            if (Modifier.isPrivate(method.getModifiers())) {
                continue;
            }
            Check.yes(method + " is public and of the object",
                    Modifier.isPublic(method.getModifiers()) && !Modifier.isStatic(method.getModifiers()));
            StringBuilder line = new StringBuilder(method.getReturnType().getName()).append(' ').append(method.getName());
            for (Class<?> type : method.getParameterTypes()) {
                line.append(' ').append(type.getName());
            }
            line.append(':');
            for (Class<?> type : method.getExceptionTypes()) {
                line.append(type.getSimpleName());
            }
            found.add(line.toString());
        }
        Check.same("the methods", found.toString(), new TreeSet<>(Arrays.asList(FACE)).toString());
    }

    private static void constants() {
        Set<String> found = new TreeSet<>();
        for (Field field : AidRegister.class.getDeclaredFields()) {
            if (!Modifier.isPrivate(field.getModifiers())) {
                found.add(Modifier.toString(field.getModifiers()) + " " + field.getName());
            }
        }
        Check.same("the constants", found.toString(), "[public static final BAD_NAME, public static final MISPLACED, "
                + "public static final NO_ERROR, public static final OUT_OF_RANGE, public static final SYNTAX]");
        Check.same("the class", Modifier.toString(AidRegister.class.getModifiers()), "public final");
        Check.same("constructors", AidRegister.class.getDeclaredConstructors().length, 1);
        Check.same("public constructors", AidRegister.class.getConstructors().length, 1);
    }

    private static void privateNames() {
        Set<String> face = new TreeSet<>();
        for (Method method : AidRegister.class.getMethods()) {
            face.add(method.getName());
        }
        for (Method method : AidRegister.class.getDeclaredMethods()) {
            Check.yes(method.toString(), Modifier.isPublic(method.getModifiers()) || !face.contains(method.getName()));
        }
        for (Class<?> inside : AidRegister.class.getDeclaredClasses()) {
            for (Method method : inside.getDeclaredMethods()) {
                Check.yes(method.toString(), !face.contains(method.getName()));
            }
        }
    }

    private static String program() throws Exception {
        return Files.readString(PROGRAM, StandardCharsets.ISO_8859_1);
    }

    private static void words() throws Exception {
        String program = program();
        Check.yes("only signs from 1 to 127", program.chars().allMatch(sign -> sign > 0 && sign < 128));
        String code = program.replaceAll("(?s)/\\*.*?\\*/", "").replaceAll("//[^\n]*", "").replaceAll("\"[^\"\n]*\"", "\"\"");
        Matcher wrong = Pattern.compile("->|::|\\b(try|catch|finally|synchronized|assert|yield|var|package|native|volatile|transient"
                + "|equals|hashCode|toString|currentTimeMillis|nanoTime|Random|Thread|Object|Exact)\\b").matcher(code);
        Check.yes("a word that must not stand there", !wrong.find());
        Matcher imports = Pattern.compile("import [^;]*;").matcher(code);
        while (imports.find()) {
            Check.same("an import", imports.group(), "import java.util.Arrays;");
        }
    }

    private static void sizes() throws Exception {
        int method = 0;
        int line = 0;
        for (String text : program().split("\n")) {
            line++;
            if (text.matches(" {4}( {4})?[A-Za-z].*[({]") && text.contains("(")) {
                method = line;
            }
            Check.yes("the method before line " + line + " is short", !text.matches(" {4}( {4})?}") || line - method <= 60);
        }
        Check.yes("at most twelve classes", AidRegister.class.getDeclaredClasses().length < 12);
        for (Class<?> inside : AidRegister.class.getDeclaredClasses()) {
            fewFields(inside);
            Check.yes(inside + " is static", Modifier.isStatic(inside.getModifiers()));
        }
        fewFields(AidRegister.class);
    }

    private static void fewFields(Class<?> type) {
        long fields = Arrays.stream(type.getDeclaredFields()).filter(field -> !Modifier.isStatic(field.getModifiers())).count();
        Check.yes(type + " has at most twenty fields", fields <= 20);
    }
}
