import java.nio.ByteBuffer;
import java.nio.charset.StandardCharsets;
import java.util.Arrays;

/** Puts texts into registers. */
final class Texts {
    private Texts() {
    }

    /** Appends a text, padded with spaces that are truncated again where the buffer allows it. */
    static void append(AidRegister register, String text) {
        byte[] bytes = text.getBytes(StandardCharsets.ISO_8859_1);
        int length = 0;
        for (int from = 0; from < bytes.length; from += 20) {
            byte[] twenty = Arrays.copyOfRange(bytes, from, from + 20);
            ByteBuffer ints = ByteBuffer.wrap(twenty);
            length = register.appendInput(ints.getInt(), ints.getInt(), ints.getInt(), ints.getInt(), ints.getInt());
            if (length < 0) {
                throw new AssertionError("the text is too long");
            }
        }
        if (bytes.length % 20 != 0 && !register.truncateInput(length - 20 + bytes.length % 20)) {
            throw new AssertionError("the text could not be truncated");
        }
    }

    static int load(AidRegister register, String text) {
        append(register, text);
        return register.loadRegister();
    }

    /** A register of a text that must be right. */
    static AidRegister register(String text) {
        AidRegister register = new AidRegister();
        if (load(register, text) < 0) {
            throw new AssertionError("the text has error " + register.errorCode() + " at " + register.errorOffset());
        }
        return register;
    }

    static String output(AidRegister register) {
        StringBuilder text = new StringBuilder();
        for (int index = 0; register.outputByte(index) >= 0; index++) {
            text.append((char) register.outputByte(index));
        }
        return text.toString();
    }
}
