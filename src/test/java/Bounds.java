import java.util.concurrent.Callable;

/** What the tests of single sentences share: short names for the checks, and many arguments for one call. */
abstract class Bounds {
    static final int LEAST = Integer.MIN_VALUE;
    static final int GREATEST = Integer.MAX_VALUE;

    interface Call {
        Object with(int value) throws Exception;
    }

    static void holds(int promise, String sentence, Check.Test test) {
        Document.holds(promise, sentence, test);
    }

    static void same(String what, long got, long want) {
        Check.same(what, got, want);
    }

    static void same(String what, double got, double want) {
        Check.same(what, got, want);
    }

    static void same(String what, String got, String want) {
        Check.same(what, got, want);
    }

    static void yes(String what, boolean got) {
        Check.yes(what, got);
    }

    static void no(String what, boolean got) {
        Check.yes("not " + what, !got);
    }

    static void noIndex(String what, Call call, int... values) {
        for (int value : values) {
            Check.noIndex(what + " with " + value, () -> call.with(value));
        }
    }

    static void noArgument(String what, Call call, int... values) {
        for (int value : values) {
            Check.noArgument(what + " with " + value, () -> call.with(value));
        }
    }

    static void noState(String what, Callable<?> call) {
        Check.noState(what, call);
    }

    static AidRegister register(String text) {
        return Texts.register(text);
    }

    /** Ten donors, from a to j, with the tax limits 1 to 10. */
    static String tenDonors() {
        StringBuilder text = new StringBuilder();
        for (int donor = 0; donor < 10; donor++) {
            text.append("donor ").append((char) ('a' + donor)).append(' ').append(donor + 1).append(';');
        }
        return text.toString();
    }

    /** What a call that answers a row of numbers for 0, 1, .. must answer. */
    static void row(String what, Call call, long... due) throws Exception {
        for (int value = 0; value < due.length; value++) {
            same(what + " of " + value, ((Number) call.with(value)).longValue(), due[value]);
        }
    }

    interface Ask {
        Object of(AidRegister register, int number) throws Exception;
    }

    /** A call that takes the number of a donor refuses it if, and only if, there is no such donor. */
    static void needsDonor(int promise, String call, Ask ask) {
        holds(promise, "Throws `IndexOutOfBoundsException` if there is no such donor", () -> {
            AidRegister none = new AidRegister();
            AidRegister one = register("donor a 5;");
            AidRegister ten = register(tenDonors());
            noIndex(call + " of none", donor -> ask.of(none, donor), -1, 0, 1);
            noIndex(call + " of one", donor -> ask.of(one, donor), -1, 1, 2, 9, LEAST, GREATEST);
            noIndex(call + " of ten", donor -> ask.of(ten, donor), -1, 10, LEAST, GREATEST);
            ask.of(one, 0);
            ask.of(ten, 0);
            ask.of(ten, 9);
        });
    }
}
