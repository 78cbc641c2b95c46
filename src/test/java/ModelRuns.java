import java.lang.reflect.InvocationTargetException;
import java.lang.reflect.Method;
import java.nio.ByteBuffer;
import java.nio.charset.StandardCharsets;
import java.util.Arrays;
import java.util.Map;
import java.util.Random;
import java.util.TreeMap;

/** Random runs of 512 calls, each call answered by AidRegister and by PlainModel. */
final class ModelRuns {
    private static final int CALLS = 512;

    /** The kinds of the arguments of each call; the letters are explained in argument(). */
    private static final String[] CALLS_AND_ARGUMENTS = {
        "appendInput xxxxx", "truncateInput l", "loadRegister ", "errorCode ", "errorOffset ", "count w",
        "declaration cw", "gift gw", "part gpw", "reason gp", "donor dwy", "taxLimit d", "isDeclared dt",
        "coverage dtt", "gap dib", "needless d", "declare dtt", "revoke ct", "addGift dtae", "split gvdv",
        "refund gm", "setTaxLimit da", "setRate r", "claim k", "claimed jw", "claimable tb", "overclaimed ",
        "totalAid ", "lost w", "mostUrgent ", "limitedYears d", "expiring tt", "useOf c", "benefitRoom g",
        "topDonor w", "bestYear ", "longestSpan d", "gainOf dtt", "bestAsked ", "neededSpan db", "gainOfSplit gd",
        "sample zxi", "wrongIn zx", "estimate zx", "aidShare ", "meanGift ", "printStatement d", "outputByte i",
        "undo ", "saveState ", "restoreState "
    };
    private static final String[] CHANGES = {
        "declare", "revoke", "addGift", "split", "refund", "setTaxLimit", "setRate", "claim"
    };

    private final Random random;
    private final Map<String, Method> real = new TreeMap<>();
    private final Map<String, Method> plain = new TreeMap<>();
    private final Map<String, String> arguments = new TreeMap<>();
    private AidRegister register;
    private PlainModel model;
    private int[] days;
    private int[] amounts;
    private StringBuilder history;

    ModelRuns(long seed) {
        random = new Random(seed);
        for (String line : CALLS_AND_ARGUMENTS) {
            String[] words = line.split(" ", 2);
            arguments.put(words[0], words[1]);
        }
        for (Method method : AidRegister.class.getDeclaredMethods()) {
            if (arguments.containsKey(method.getName()) && java.lang.reflect.Modifier.isPublic(method.getModifiers())) {
                real.put(method.getName(), method);
            }
        }
        for (Method method : PlainModel.class.getDeclaredMethods()) {
            if (arguments.containsKey(method.getName()) && java.lang.reflect.Modifier.isPublic(method.getModifiers())) {
                plain.put(method.getName(), method);
            }
        }
        Check.same("the calls of the face", real.size(), arguments.size());
        Check.same("the calls of the model", plain.size(), arguments.size());
    }

    void run() throws Exception {
        register = new AidRegister();
        model = new PlainModel();
        history = new StringBuilder();
        int base = random.nextInt(5) == 0 ? 9990 : random.nextInt(9000);
        days = new int[] {0, 9999, base, base + 1, base + 3, base + 9, base / 365 * 365, base / 365 * 365 + 364,
            Math.min(9999, base + 400), random.nextInt(10000), random.nextInt(10000)};
        amounts = new int[] {1, 2, 3, 10, 99, 100, 101, 1000, 4321, 999999, random.nextInt(10000) + 1};
        int called = load();
        boolean patient = random.nextInt(4) != 0;
        while (called < CALLS) {
            if (model.count(0) == 0 || random.nextInt(patient ? 400 : 60) == 0) {
                called += load();
            }
            boolean change = random.nextInt(4) == 0;
            String name = change ? CHANGES[random.nextInt(CHANGES.length)]
                    : CALLS_AND_ARGUMENTS[random.nextInt(CALLS_AND_ARGUMENTS.length)].split(" ")[0];
            // Loads, undos and restores beyond these would leave little of what the changes build up.
            boolean rare = name.equals("loadRegister") || name.equals("restoreState") || name.equals("undo");
            if (!rare || random.nextInt(4) == 0) {
                compare(name, values(name));
                called++;
            }
        }
    }

    private int load() throws Exception {
        String text = text();
        byte[] bytes = text.getBytes(StandardCharsets.ISO_8859_1);
        compare("truncateInput", 0);
        int calls = 2;
        for (int from = 0; from < bytes.length; from += 20) {
            ByteBuffer ints = ByteBuffer.wrap(Arrays.copyOfRange(bytes, from, from + 20));
            compare("appendInput", ints.getInt(), ints.getInt(), ints.getInt(), ints.getInt(), ints.getInt());
            calls++;
        }
        compare("truncateInput", bytes.length);
        compare("loadRegister");
        compare("errorCode");
        compare("errorOffset");
        return calls + 3;
    }

    private void compare(String name, Object... values) throws Exception {
        history.append('\n').append(name).append(Arrays.toString(values));
        String got = answer(real.get(name), register, values);
        String want = answer(plain.get(name), model, values);
        if (!got.equals(want)) {
            throw new AssertionError(history + " answered " + got + ", the model " + want);
        }
    }

    private static String answer(Method method, Object object, Object[] values) throws Exception {
        try {
            return String.valueOf(method.invoke(object, values));
        } catch (InvocationTargetException thrown) {
            return thrown.getCause().getClass().getName();
        }
    }

    private Object[] values(String name) {
        String kinds = arguments.get(name);
        Object[] values = new Object[kinds.length()];
        for (int i = 0; i < values.length; i++) {
            values[i] = random.nextInt(120) == 0 && kinds.charAt(i) != 'b' ? (Object) anyInt() : argument(kinds.charAt(i));
        }
        if (kinds.endsWith("tt") && random.nextInt(10) != 0 && (int) values[values.length - 2] > (int) values[values.length - 1]) {
            Object last = values[values.length - 2];
            values[values.length - 2] = values[values.length - 1];
            values[values.length - 1] = last;
        }
        return values;
    }

    private int anyInt() {
        int[] edges = {Integer.MIN_VALUE, Integer.MAX_VALUE, -1, -2, 10000, 1000000, 365, 28, random.nextInt()};
        return edges[random.nextInt(edges.length)];
    }

    private int near(int count) {
        return random.nextInt(15) == 0 ? random.nextInt(count + 3) - 1 : count == 0 ? 0 : random.nextInt(count);
    }

    private Object argument(char kind) {
        switch (kind) {
            case 'b': return random.nextBoolean();
            case 'd': return near(model.count(0));
            case 'c': return near(model.count(1));
            case 'g': return near(model.count(2));
            case 'j': return near(model.count(4));
            case 'p': return near(3);
            case 'w': return random.nextInt(11) - 1 + random.nextInt(2);
            case 't': return day();
            case 'y': return random.nextInt(3) == 0 ? random.nextInt(31) - 2 : day() / 365;
            case 'k': return claimDay();
            case 'a': return amount();
            case 'm': return random.nextInt(3) == 0 ? amount() : random.nextInt(40);
            case 'e': return random.nextInt(3) == 0 ? amount() : random.nextInt(30);
            case 'v': return random.nextInt(12) == 0 ? random.nextInt(12) - 1 : random.nextInt(9) + 1;
            case 'r': return random.nextInt(6) == 0 ? random.nextInt(104) - 1 : 20 + random.nextInt(30);
            case 'z': return random.nextInt(6) == 0 ? random.nextInt(64) - 1 : random.nextInt(8) + 1;
            case 'i': return random.nextInt(12) - 1;
            case 'l': return random.nextInt(30) - 2;
            default: return random.nextInt();
        }
    }

    /** Mostly a day on which a claim can be made, so that there come to be many claims. */
    private int claimDay() {
        int claims = model.count(4);
        int latest = claims == 0 ? days[2] : model.claimed(claims - 1, 0);
        return random.nextInt(8) == 0 ? day() : Math.min(9999, latest + random.nextInt(12));
    }

    private int day() {
        return days[random.nextInt(days.length)];
    }

    private int amount() {
        return amounts[random.nextInt(amounts.length)];
    }

    // --- texts

    private String text() {
        return random.nextInt(10) == 0 ? fullText() : usualText();
    }

    /** Ten donors and almost as many splits of three donors as the buffer holds. */
    private String fullText() {
        StringBuilder text = new StringBuilder();
        for (char donor = 'a'; donor < 'k'; donor++) {
            text.append("donor ").append(donor).append(random.nextInt(900)).append(';');
        }
        for (int gift = random.nextInt(8); gift < 41; gift++) {
            int first = random.nextInt(8);
            int between = random.nextInt(9 - first) + 1 + first;
            text.append("split").append(random.nextInt(70)).append(' ').append(random.nextInt(90) + 1).append(" 0")
                    .append((char) ('a' + first)).append(random.nextInt(9) + 1)
                    .append((char) ('a' + between)).append(random.nextInt(9) + 1);
            if (between < 9) {
                text.append('j').append(random.nextInt(9) + 1);
            }
            text.append(';');
        }
        return text.toString();
    }

    private String usualText() {
        StringBuilder text = new StringBuilder();
        String[] names = {"a", "bob", "ann", "zzzzzz", "gif", "gifts", "x", "y", "z", "abcd", "no"};
        int donors = random.nextInt(12) == 0 ? 11 : random.nextInt(5) + 1;
        for (int donor = 0; donor < donors; donor++) {
            put(text, "donor " + names[donor] + " " + (random.nextInt(3) == 0 ? amount() - 1 : random.nextInt(300)));
        }
        if (random.nextInt(3) == 0) {
            put(text, "rules " + random.nextInt(random.nextInt(9) == 0 ? 103 : 101) + " "
                    + random.nextInt(random.nextInt(3) == 0 ? 10002 : 500) + " " + random.nextInt(101));
        }
        int many = random.nextInt(12) == 0 ? 70 : random.nextInt(20) + 1;
        for (int i = 0; i < many && text.length() < 850; i++) {
            put(text, statement(names, donors));
        }
        if (random.nextInt(3) == 0) {
            spoil(text);
        }
        return text.length() > 900 ? text.substring(0, 900) : text.toString();
    }

    private void put(StringBuilder text, String statement) {
        text.append(statement).append(random.nextInt(5) == 0 ? " ;\n" : ";");
    }

    private String statement(String[] names, int donors) {
        String name = names[random.nextInt(donors)];
        int kind = random.nextInt(8);
        if (kind <= 2) {
            int a = day();
            int b = day();
            return "declare " + name + " " + Math.min(a, b) + " " + Math.max(a, b);
        }
        String head = " " + day() + " " + amount() + " " + argument('e') + " ";
        if (kind <= 5) {
            return "gift" + head + name;
        }
        if (kind == 6) {
            return "cash" + head;
        }
        int first = random.nextInt(names.length);
        StringBuilder split = new StringBuilder("split").append(head);
        int parts = donors < 2 ? 1 : donors == 2 || random.nextBoolean() ? 2 : 3;
        for (int part = 0; part < parts; part++) {
            split.append(names[(first + part) % donors]).append(' ').append(random.nextInt(9) + 1).append(' ');
        }
        return split.toString();
    }

    private void spoil(StringBuilder text) {
        String[] bits = {";", " ", "0", "1", "9999", "99999", "0000001", "x", "gift", "rules 1 2 3;", "donor", "cash",
            "declare ", "A", "\t", "\u0000", "\u00ff", "-", "split", "gift 1 1 1 a;", "abcdefg"};
        int place = random.nextInt(text.length());
        switch (random.nextInt(3)) {
            case 0:
                text.deleteCharAt(place);
                break;
            case 1:
                text.setLength(place);
                break;
            default:
                text.insert(place, bits[random.nextInt(bits.length)]);
        }
    }
}
