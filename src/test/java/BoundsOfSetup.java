import java.util.Arrays;

/** Promises 1 to 6, sentence by sentence: a new object, the input buffer, the setup text and its errors. */
final class BoundsOfSetup extends Bounds {
    private static final int SPACES = 0x20202020;
    private static final String THREE = "donor a 1;donor b 1;donor c 1;";

    private BoundsOfSetup() {
    }

    static void all() {
        newObject();
        appending();
        truncating();
        loading();
        reporting();
        statements();
        rules();
        tokens();
        order();
        syntax();
        otherErrors();
    }

    private static void fails(String text, int code, int offset) {
        AidRegister register = new AidRegister();
        same("loadRegister of '" + text + "'", Texts.load(register, text), -1);
        same("errorCode of '" + text + "'", register.errorCode(), code);
        same("errorOffset of '" + text + "'", register.errorOffset(), offset);
    }

    private static void loads(String text, int gifts) {
        AidRegister register = new AidRegister();
        same("loadRegister of '" + text + "'", Texts.load(register, text), gifts);
        same("errorCode of '" + text + "'", register.errorCode(), AidRegister.NO_ERROR);
        same("errorOffset of '" + text + "'", register.errorOffset(), -1);
    }

    private static void newObject() {
        holds(1, "Creates a register as if an empty text was loaded, with an empty input buffer.", () -> {
            AidRegister empty = new AidRegister();
            same("a load of nothing", empty.loadRegister(), 0);
            same("a new object", Snapshot.whole(new AidRegister()), Snapshot.whole(empty));
            AidRegister register = new AidRegister();
            row("count", register::count, 0, 0, 0, 0, 0, 25, 1460, 25, 0, 0);
            row("the best of nothing", what -> new int[] {register.mostUrgent(), register.topDonor(0), register.bestYear(),
                register.bestAsked(), register.sample(1, 0, 0), register.undo(), register.outputByte(0)}[what],
                    -1, -1, -1, -1, -1, -1, -1);
            no("a byte in the buffer", register.truncateInput(1));
            yes("an empty buffer", register.truncateInput(0));
            Check.noState("restoreState", register::restoreState);
        });
    }

    // --- the input buffer

    /** The offset of the first byte that belongs to no token. */
    private static int firstStray(int... ints) {
        AidRegister register = new AidRegister();
        same("appendInput", register.appendInput(ints[0], ints[1], ints[2], ints[3], ints[4]), 20);
        register.loadRegister();
        return register.errorOffset();
    }

    private static void appending() {
        holds(2, "Appends 20 bytes to the input buffer: the four bytes of each parameter, the most significant byte first.", () -> {
            for (int stray : new int[] {'#', 0, 0x80, 0xff}) {
                for (int at = 0; at < 20; at++) {
                    byte[] bytes = new byte[20];
                    Arrays.fill(bytes, (byte) ' ');
                    bytes[at] = (byte) stray;
                    AidRegister register = new AidRegister();
                    Texts.append(register, new String(bytes, java.nio.charset.StandardCharsets.ISO_8859_1));
                    register.loadRegister();
                    same("the place of byte " + stray, register.errorOffset(), at);
                }
            }
        });
        String[] parameters = {"`a`: first four bytes", "`b`: next four bytes", "`c`: next four bytes", "`d`: next four bytes",
            "`e`: last four bytes"};
        for (int p = 0; p < parameters.length; p++) {
            int parameter = p;
            holds(2, parameters[p], () -> {
                int[] ints = {SPACES, SPACES, SPACES, SPACES, SPACES};
                same("without another byte", firstStray(ints), -1);
                ints[parameter] = 0x20202023;
                same("the least significant byte", firstStray(ints), 4 * parameter + 3);
                ints[parameter] = LEAST;
                same("the least int", firstStray(ints), 4 * parameter);
                ints[parameter] = -1;
                same("-1", firstStray(ints), 4 * parameter);
            });
        }
        holds(2, "Returns the new length of the input buffer; -1, with no change, if it would exceed 900.", () -> {
            AidRegister register = new AidRegister();
            Texts.append(register, "donor a 7;          ");
            for (int length = 40; length <= 900; length += 20) {
                same("appendInput", register.appendInput(SPACES, SPACES, SPACES, SPACES, SPACES), length);
            }
            for (int length = 900; length > 880; length--) {
                yes("truncated to " + length, register.truncateInput(length));
                same("appendInput to " + (length + 20), register.appendInput(-1, -1, -1, -1, -1), -1);
                no("a byte behind " + length, register.truncateInput(length + 1));
            }
            register.truncateInput(880);
            same("appendInput to 900", register.appendInput(SPACES, SPACES, SPACES, SPACES, SPACES), 900);
            same("the text is as it was", register.loadRegister(), 0);
            same("its tax limit", register.taxLimit(0), 7);
            same("appendInput behind the load", register.appendInput(SPACES, SPACES, SPACES, SPACES, SPACES), 20);
        });
        holds(2, "The input buffer holds at most 900 bytes.", () -> {
            AidRegister register = new AidRegister();
            Texts.append(register, " ".repeat(889) + "donor a 98;");
            same("one more", register.appendInput(SPACES, SPACES, SPACES, SPACES, SPACES), -1);
            same("all of 900 bytes are read", register.loadRegister(), 0);
            same("the last number", register.taxLimit(0), 98);
        });
    }

    private static void truncating() {
        holds(3, "Truncates the input buffer.", () -> {
            AidRegister register = new AidRegister();
            Texts.append(register, "donor a 123456;     ");
            register.truncateInput(12);
            Texts.append(register, ";donor b 5;         ");
            same("loadRegister", register.loadRegister(), 0);
            same("what stood before the new length", register.taxLimit(0), 1234);
            same("what was appended then", register.taxLimit(1), 5);
        });
        holds(3, "Returns true; false, with no change, if length is negative or greater than the current length.", () -> {
            AidRegister register = new AidRegister();
            yes("0 of 0", register.truncateInput(0));
            no("1 of 0", register.truncateInput(1));
            Texts.append(register, "donor a 7;donor b 8;");
            for (int length : new int[] {-1, 21, 900, 901, LEAST, GREATEST}) {
                no("" + length, register.truncateInput(length));
            }
            yes("20 of 20", register.truncateInput(20));
            same("nothing was cut off", register.loadRegister() + register.count(0), 2);
            Texts.append(register, "donor a 7;donor b 8;");
            yes("19 of 20", register.truncateInput(19));
            no("20 of 19", register.truncateInput(20));
            yes("0 of 19", register.truncateInput(0));
            no("1 of 0", register.truncateInput(1));
            no("-1 of 0", register.truncateInput(-1));
        });
    }

    // --- loads

    private static void loading() {
        holds(4, "Loads a setup from the input buffer and empties the buffer, whether the load succeeds or not.", () -> {
            AidRegister register = new AidRegister();
            same("a load that succeeds", Texts.load(register, "donor a 1;"), 0);
            no("a byte behind it", register.truncateInput(1));
            same("a load that does not", Texts.load(register, "donor b 1"), -1);
            no("a byte behind it", register.truncateInput(1));
            same("a load of what is left: nothing", register.loadRegister(), 0);
            same("its donors", register.count(0), 0);
            Texts.append(register, " ".repeat(900));
            register.loadRegister();
            same("room for 20 bytes behind a full buffer", register.appendInput(0, 0, 0, 0, 0), 20);
        });
        holds(4, "Returns the number of gifts; -1 if there is an error.", () -> {
            loads("", 0);
            loads("donor a 1;", 0);
            loads("cash 0 1 0;", 1);
            loads("cash 0 1 0;".repeat(60), 60);
            fails("cash 0 1 0;".repeat(59) + "cash 0 1;", AidRegister.SYNTAX, 59 * 11 + 8);
        });
        holds(4, "An error changes nothing but the input buffer and the reported error.", () -> {
            AidRegister touched = Fixtures.busy();
            touched.truncateInput(0);
            same("loadRegister", Texts.load(touched, "rules 1 2 3;donor x 5;cash 0  #"), -1);
            same("the buffer", touched.truncateInput(1) ? 1 : 0, 0);
            Texts.append(touched, Fixtures.IN_BUFFER);
            same("all but the buffer", Snapshot.whole(touched), Snapshot.whole(Fixtures.busy()));
        });
        holds(4, "A successful load replaces everything: there are no claims and no refunds, nothing can be undone, and no state is saved.",
                () -> {
                    String text = "donor ann 99;donor x 5;declare x 0 9;gift 5 80 0 x;gift 365 7 0 ann;";
                    AidRegister busy = Fixtures.busy();
                    busy.truncateInput(0);
                    // What questions try out must not be left either.
                    same("useOf", busy.useOf(0), 60);
                    same("loadRegister", Texts.load(busy, text), 2);
                    same("undo", busy.undo(), -1);
                    noState("restoreState", busy::restoreState);
                    AidRegister fresh = register(text);
                    // The document does not say what a load leaves of the output: both get one of their own.
                    busy.printStatement(1);
                    fresh.printStatement(1);
                    same("all of it", Snapshot.whole(busy), Snapshot.whole(fresh));
                    AidRegister full = Fixtures.full();
                    full.refund(0, 5);
                    full.useOf(29);
                    same("loadRegister", Texts.load(full, text), 2);
                    full.printStatement(1);
                    fresh = register(text);
                    fresh.printStatement(1);
                    full.claim(5);
                    fresh.claim(5);
                    same("all of a full one", Snapshot.full(full), Snapshot.full(fresh));
                });
        holds(4, "An empty text has no donors.", () -> {
            for (String text : new String[] {"", " ", "\n", " \n".repeat(450)}) {
                AidRegister register = register("rules 1 2 3;" + THREE + "declare a 1 1;cash 1 1 1;");
                same("loadRegister", Texts.load(register, text), 0);
                row("count", register::count, 0, 0, 0, 0, 0, 25, 1460, 25, 0, 0);
                same("errorCode", register.errorCode(), AidRegister.NO_ERROR);
            }
        });
    }

    private static void reporting() {
        holds(5, "Returns the error of the latest call of loadRegister.", () -> {
            AidRegister register = new AidRegister();
            String[] texts = {"", "#", "cash 10000 1 1;", "gift 1 1 1 a;", "rules 1 1 1;rules 1 1 1;", "rules 1 1 1;"};
            int[] codes = {AidRegister.NO_ERROR, AidRegister.SYNTAX, AidRegister.OUT_OF_RANGE, AidRegister.BAD_NAME,
                AidRegister.MISPLACED, AidRegister.NO_ERROR};
            for (int i = 0; i < texts.length; i++) {
                Texts.load(register, texts[i]);
                same("errorCode of '" + texts[i] + "'", register.errorCode(), codes[i]);
            }
        });
        holds(5, "Returns an error code; NO_ERROR if that call succeeded or there was no call.", () -> {
            AidRegister register = new AidRegister();
            same("without a call", register.errorCode(), AidRegister.NO_ERROR);
            Texts.append(register, "#");
            same("before the call", register.errorCode(), AidRegister.NO_ERROR);
            register.loadRegister();
            register.saveState();
            Texts.append(register, "donor a 1;");
            same("before the next call", register.errorCode(), AidRegister.SYNTAX);
            register.restoreState();
            register.undo();
            same("behind other calls", register.errorCode(), AidRegister.SYNTAX);
            register.loadRegister();
            same("behind a call that succeeded", register.errorCode(), AidRegister.NO_ERROR);
        });
        holds(6, "Returns the offset of the error of the latest call of loadRegister.", () -> {
            fails("#", AidRegister.SYNTAX, 0);
            fails(" ".repeat(899) + "#", AidRegister.SYNTAX, 899);
            fails(" ".repeat(895) + "donor", AidRegister.SYNTAX, 900);
            AidRegister register = new AidRegister();
            Texts.load(register, "  #");
            same("the first", register.errorOffset(), 2);
            Texts.load(register, "cash 0 0");
            same("the second", register.errorOffset(), 7);
        });
        holds(6, "Returns the offset; -1 if errorCode() is NO_ERROR.", () -> {
            AidRegister register = new AidRegister();
            same("without a call", register.errorOffset(), -1);
            Texts.load(register, "#");
            same("an error at the first byte", register.errorOffset(), 0);
            register.loadRegister();
            same("behind a call that succeeded", register.errorOffset(), -1);
        });
        String[] constants = {"`NO_ERROR = 0`: No error.", "`SYNTAX = 1`: Error code: the text does not follow the form.",
            "`OUT_OF_RANGE = 2`: Error code: a number is out of range.", "`BAD_NAME = 3`: Error code: a name that cannot stand there.",
            "`MISPLACED = 4`: Error code: a statement that cannot stand there."};
        int[] values = {AidRegister.NO_ERROR, AidRegister.SYNTAX, AidRegister.OUT_OF_RANGE, AidRegister.BAD_NAME, AidRegister.MISPLACED};
        String[] texts = {"cash 0 1 0;", "cash 0 1 0", "cash 0 0 0;", "gift 0 1 0 x;", "cash 0 1 0;rules 0 0 0;"};
        for (int code = 0; code < constants.length; code++) {
            int due = code;
            holds(5, constants[code], () -> {
                same("the constant", values[due], due);
                AidRegister register = new AidRegister();
                Texts.load(register, texts[due]);
                same("errorCode", register.errorCode(), due);
            });
        }
    }

    // --- statements

    private static void statements() {
        holds(4, "donor NAME N a donor and the tax limit, 0 to 999999", () -> {
            AidRegister register = register("donor a 0;donor b 999999;donor c 000000;");
            row("taxLimit", register::taxLimit, 0, 999999, 0);
            fails("donor a 1000000;", AidRegister.SYNTAX, 8);
        });
        holds(4, "declare NAME N N a declaration: the first and the last day", () -> {
            AidRegister register = register("donor a 1;declare a 0 0;declare a 9999 9999;declare a 0 9999;");
            row("the first days", d -> register.declaration(d, 1), 0, 9999, 0);
            row("the last days", d -> register.declaration(d, 2), 0, 9999, 9999);
            fails("donor a 1;declare a 10000 10000;", AidRegister.OUT_OF_RANGE, 20);
            fails("donor a 1;declare a 9999 10000;", AidRegister.OUT_OF_RANGE, 25);
            fails("donor a 1;declare a 9999 9998;", AidRegister.OUT_OF_RANGE, 25);
            fails("donor a 1;declare a 1 0;", AidRegister.OUT_OF_RANGE, 22);
        });
        holds(4, "gift N N N NAME a gift of one donor: day, amount (1 to 999999), benefit (0 to 999999)", () -> {
            AidRegister register = register("donor a 1;gift 0 1 0 a;gift 9999 999999 999999 a;");
            row("the first", what -> register.gift(0, what), 0, 1, 0, 1, 1, 0, 0, 0);
            row("the last", what -> register.gift(1, what), 9999, 999999, 999999, 1, 999999, 1, 0, 0);
            fails("donor a 1;gift 10000 1 0 a;", AidRegister.OUT_OF_RANGE, 15);
            fails("donor a 1;gift 0 0 0 a;", AidRegister.OUT_OF_RANGE, 17);
            fails("donor a 1;gift 0 1000000 0 a;", AidRegister.SYNTAX, 17);
            fails("donor a 1;gift 0 1 1000000 a;", AidRegister.SYNTAX, 19);
        });
        holds(4, "split N N N NAME N NAME N a gift of two donors, with their weights (1 to 9), or of three:", () -> {
            AidRegister register = register(THREE + "split 0 10 0 b 1 a 9;split 9999 999999 999999 a 9 c 1;");
            row("the first shares", gift -> register.part(gift, 0, 1), 1, 900000);
            row("the second shares", gift -> register.part(gift, 1, 1), 9, 99999);
            String head = THREE + "split ";
            fails(head + "10000 1 0 a 1 b 1;", AidRegister.OUT_OF_RANGE, 36);
            fails(head + "0 0 0 a 1 b 1;", AidRegister.OUT_OF_RANGE, 38);
            fails(head + "0 1 0 a 0 b 1;", AidRegister.OUT_OF_RANGE, 44);
            fails(head + "0 1 0 a 10 b 1;", AidRegister.OUT_OF_RANGE, 44);
            fails(head + "0 1 0 a 1 b 0;", AidRegister.OUT_OF_RANGE, 48);
            fails(head + "0 1 0 a 1 b 10;", AidRegister.OUT_OF_RANGE, 48);
            fails(head + "0 1 0 a 1;", AidRegister.SYNTAX, 45);
        });
        holds(4, "split N N N NAME N NAME N NAME N", () -> {
            AidRegister register = register(THREE + "split 0 11 0 c 1 b 9 a 1;split 0 19 0 a 9 c 1 b 9;");
            row("the parts", gift -> register.gift(gift, 3), 3, 3);
            row("the third donors", gift -> register.part(gift, 2, 0), 0, 1);
            row("the third shares", gift -> register.part(gift, 2, 1), 1, 9);
            String head = THREE + "donor d 1;split 0 1 0 a 1 b 1 c ";
            fails(head + "0;", AidRegister.OUT_OF_RANGE, 62);
            fails(head + "10;", AidRegister.OUT_OF_RANGE, 62);
            fails(head + "1 d 1;", AidRegister.SYNTAX, 64);
        });
        holds(4, "cash N N N a gift of nobody known", () -> {
            AidRegister register = register("cash 0 1 0;cash 9999 999999 999999;");
            row("the first", what -> register.gift(0, what), 0, 1, 0, 0, 1, 0, 0, 0);
            row("the last", what -> register.gift(1, what), 9999, 999999, 999999, 0, 999999, 1, 0, 0);
            fails("cash 10000 1 0;", AidRegister.OUT_OF_RANGE, 5);
            fails("cash 0 0 0;", AidRegister.OUT_OF_RANGE, 7);
            fails("cash 0 1000000 0;", AidRegister.SYNTAX, 7);
            fails("cash 0 1 1000000;", AidRegister.SYNTAX, 9);
        });
        holds(4, "The text is a sequence of statements, each followed by a semicolon.", () -> {
            loads("donor a 1;donor b 2;cash 0 1 0;", 1);
            fails("donor a 1;cash 0 1 0", AidRegister.SYNTAX, 20);
            fails("donor a 1 donor b 2;", AidRegister.SYNTAX, 10);
            fails(";", AidRegister.SYNTAX, 0);
            fails("donor a 1;;", AidRegister.SYNTAX, 10);
        });
    }

    private static void rules() {
        holds(4, "rules N N N the rate (0 to 100), the window (0 to 9999), the benefit limit (0 to 100); 25, 1460 and 25 without it", () -> {
            String[] texts = {"rules 0 0 0;", "rules 100 9999 100;", "rules 1 2 3;", "", "donor a 1;cash 1 1 1;"};
            int[][] due = {{0, 0, 0}, {100, 9999, 100}, {1, 2, 3}, {25, 1460, 25}, {25, 1460, 25}};
            AidRegister register = new AidRegister();
            for (int i = 0; i < texts.length; i++) {
                Texts.load(register, texts[i]);
                row("the settings of '" + texts[i] + "'", what -> register.count(5 + what), due[i][0], due[i][1], due[i][2]);
            }
            fails("rules 101 0 0;", AidRegister.OUT_OF_RANGE, 6);
            fails("rules 0 10000 0;", AidRegister.OUT_OF_RANGE, 8);
            fails("rules 0 0 101;", AidRegister.OUT_OF_RANGE, 10);
        });
        holds(4, "The statement rules may occur once, only before the first gift, split or cash.", () -> {
            loads(THREE + "declare a 1 1;rules 1 1 1;split 0 1 0 a 1 b 1;gift 0 1 0 a;cash 0 1 0;", 3);
            fails("rules 1 1 1;rules 1 1 1;", AidRegister.MISPLACED, 12);
            fails("rules 1 1 1;" + THREE + "rules 1 1 1;", AidRegister.MISPLACED, 42);
            fails(THREE + "gift 0 1 0 a;rules 1 1 1;", AidRegister.MISPLACED, 43);
            fails(THREE + "split 0 1 0 a 1 b 1;rules 1 1 1;", AidRegister.MISPLACED, 50);
            fails("cash 0 1 0;rules 1 1 1;", AidRegister.MISPLACED, 11);
            AidRegister register = register("rules 1 1 1;cash 0 1 0;");
            same("a later text has rules of its own", Texts.load(register, "rules 2 2 2;"), 0);
            same("its rate", register.count(5), 2);
        });
    }

    // --- tokens

    private static void tokens() {
        holds(4, "A NAME is a word of 1 to 6 letters that is none of the first words of statements.", () -> {
            loads("donor a 1;donor z 1;donor abcdef 1;donor zzzzzz 1;gift 0 1 0 zzzzzz;gift 0 1 0 a;", 2);
            loads("donor gifts 1;donor gif 1;donor cas 1;donor rule 1;donor donors 1;donor dono 1;donor declar 1;", 0);
            fails("donor abcdefg 1;", AidRegister.SYNTAX, 6);
            fails("donor abcdef 1;gift 0 1 0 abcdefg;", AidRegister.SYNTAX, 26);
            for (String word : "donor declare gift split cash rules".split(" ")) {
                fails("donor " + word + " 1;", AidRegister.SYNTAX, 6);
                fails("donor a 1;gift 0 1 0 " + word + ";", AidRegister.SYNTAX, 21);
                fails("donor a 1;declare " + word + " 0 1;", AidRegister.SYNTAX, 18);
            }
        });
        holds(4, "Tokens are words (maximal runs of the letters a to z), numbers (maximal runs of digits, 1 to 6 of them) and semicolons.", () -> {
            loads("donor az09;cash0 1 0;donor za999999;", 1);
            fails("donora 1;", AidRegister.SYNTAX, 0);
            fails("dono r a 1;", AidRegister.SYNTAX, 0);
            fails("donor a 0000001;", AidRegister.SYNTAX, 8);
            fails("donor a 12 3;", AidRegister.SYNTAX, 11);
            fails("donor a b 1;", AidRegister.SYNTAX, 8);
            loads("donor a 000001;", 0);
            // The signs beside a to z, 0 to 9 and the semicolon, and those that numbers could have.
            for (char sign : "`{/:<AZ-+._\u007f\u00e1".toCharArray()) {
                fails("donor " + sign + " 1;", AidRegister.SYNTAX, 6);
                fails("donor a" + sign + " 1;", AidRegister.SYNTAX, 7);
                fails("donor a " + sign + "1;", AidRegister.SYNTAX, 8);
                fails("donor a 1" + sign + ";", AidRegister.SYNTAX, 9);
                fails("donor a 1;" + sign, AidRegister.SYNTAX, 10);
            }
        });
        holds(4, "Spaces (32) and line feeds (10) may stand between tokens.", () -> {
            loads(" \n donor\na \n1\n;\n\ncash 0\n1  0 ; ", 1);
            loads("donor a1;cash0 1 0;", 1);
            for (int sign = 0; sign < 256; sign++) {
                boolean between = sign == 32 || sign == 10;
                if (between) {
                    loads("donor" + (char) sign + "a 1;", 0);
                    fails("don" + (char) sign + "or a 1;", AidRegister.SYNTAX, 0);
                } else if (sign < 'a' || sign > 'z') {
                    fails("donor" + (char) sign + "a 1;", AidRegister.SYNTAX, 5);
                } else {
                    fails("donor" + (char) sign + "a 1;", AidRegister.SYNTAX, 0);
                }
            }
        });
    }

    private static void order() {
        holds(5, "A text is parsed from left to right, and the first error met is reported, with an offset in bytes from 0;"
                + " if several errors apply to one token, the one with the smallest code:", () -> {
            fails("cash 10000 0 #", AidRegister.OUT_OF_RANGE, 5);
            fails("cash # 10000 0;", AidRegister.SYNTAX, 5);
            fails("gift 0 1 0 x 1;rules", AidRegister.BAD_NAME, 11);
            fails("gift 10000 1 0 x;", AidRegister.OUT_OF_RANGE, 5);
            fails("rules 1 1 1;rules 101 # x;", AidRegister.MISPLACED, 12);
            fails("rules 1 1 1;rules", AidRegister.MISPLACED, 12);
            fails("rules 101 1 1;rules 1 1 1;", AidRegister.OUT_OF_RANGE, 6);
            fails("donor a 1;donor a 1000000;", AidRegister.BAD_NAME, 16);
            // One token: too long and out of range; too long and not told; no name and not told; no name, but it stands there already.
            fails("cash 1000000 1 0;", AidRegister.SYNTAX, 5);
            fails("gift 0 1 0 abcdefg;", AidRegister.SYNTAX, 11);
            fails("gift 0 1 0 cash;", AidRegister.SYNTAX, 11);
            fails("donor cash 1;", AidRegister.SYNTAX, 6);
            fails(THREE + "split 0 1 0 a 1 gift 1;", AidRegister.SYNTAX, 46);
        });
    }

    // --- errors

    /** The forms of statements, each as a text that it stands behind, and its tokens. */
    private static final String[][] FORMS = {
        {"", "donor", "x", "1", ";"},
        {THREE, "declare", "a", "1", "2", ";"},
        {THREE, "gift", "1", "2", "3", "a", ";"},
        {THREE, "split", "1", "2", "3", "a", "1", "b", "2", ";"},
        {THREE, "split", "1", "2", "3", "c", "1", "b", "2", "a", "9", ";"},
        {THREE, "cash", "1", "2", "3", ";"},
        {"", "rules", "1", "2", "3", ";"}
    };

    /** What cannot stand in place of a token, whatever follows; behind two donors of a split, a semicolon and a name can. */
    private static String[] wrongFor(String token, boolean firstWord, boolean behindTwoDonors) {
        if (firstWord) {
            return new String[] {"1", ";", "a", "zzzzzz", "donors", "declares", "#", "1234567", "\u00ff"};
        }
        if (behindTwoDonors) {
            return new String[] {"1", "cash", "rules", "abcdefg", "#", ":", "1234567"};
        }
        if (token.matches("[a-z]+")) {
            return new String[] {"1", ";", "gift", "rules", "abcdefg", "#", "A", "1234567"};
        }
        if (token.matches("[0-9]+")) {
            return new String[] {"a", "zz", "gift", ";", "1234567", "0000001", "#", "-"};
        }
        return new String[] {"1", "a", "zz", "cash", "#", ":"};
    }

    private static void syntax() {
        holds(5, "SYNTAX: a token that cannot stand at its place, a number or a name that is too long, a byte that belongs to no token,"
                + " or the end of the text where more is required.", () -> {
            for (String[] form : FORMS) {
                for (int at = 1; at < form.length; at++) {
                    String before = form[0] + String.join(" ", Arrays.copyOfRange(form, 1, at));
                    boolean behindTwoDonors = form[1].equals("split") && at == 9;
                    for (String wrong : wrongFor(form[at], at == 1, behindTwoDonors)) {
                        fails(before + " " + wrong + " 1 a ; 2", AidRegister.SYNTAX, before.length() + 1);
                    }
                }
            }
        });
        holds(6, "The offset is that of the first byte of the token, or the length of the text.", () -> {
            for (String[] form : FORMS) {
                for (int at = 2; at < form.length; at++) {
                    String before = form[0] + String.join(" ", Arrays.copyOfRange(form, 1, at));
                    fails(before, AidRegister.SYNTAX, before.length());
                    fails(before + " \n ", AidRegister.SYNTAX, before.length() + 3);
                }
            }
            fails("\n 1234567", AidRegister.SYNTAX, 2);
            fails("  donor  abcdefg", AidRegister.SYNTAX, 9);
            fails("donor a 1234567890123", AidRegister.SYNTAX, 8);
            fails("donor " + "z".repeat(894), AidRegister.SYNTAX, 6);
        });
    }

    private static void otherErrors() {
        holds(5, "OUT_OF_RANGE: a number out of its range (a last day also if it is before the first one), at its first byte.", () -> {
            fails("cash  10000 1 0;", AidRegister.OUT_OF_RANGE, 6);
            fails("cash 1  000000 0;", AidRegister.OUT_OF_RANGE, 8);
            fails("cash 999999 1 0;", AidRegister.OUT_OF_RANGE, 5);
            fails("rules 000101 1 0;", AidRegister.OUT_OF_RANGE, 6);
            fails("donor a 1;declare a 10  9;", AidRegister.OUT_OF_RANGE, 24);
            fails("donor a 1;declare a 10  10000;", AidRegister.OUT_OF_RANGE, 24);
            loads("donor a 1;declare a 10 10;declare a 009999 9999;", 0);
        });
        holds(5, "BAD_NAME: the name of a donor that was told already; elsewhere a name that was not told, or, in a split, one that stands"
                + " in it already.", () -> {
            fails(THREE + "donor a 1;", AidRegister.BAD_NAME, 36);
            fails(THREE + "donor c 1;", AidRegister.BAD_NAME, 36);
            fails(THREE + "declare d 0 0;", AidRegister.BAD_NAME, 38);
            fails("declare a 0 0;donor a 1;", AidRegister.BAD_NAME, 8);
            fails(THREE + "gift 0 1 0 aa;", AidRegister.BAD_NAME, 41);
            fails("donor abcdef 1;gift 0 1 0 abcde;", AidRegister.BAD_NAME, 26);
            fails("donor abcdef 1;gift 0 1 0 abcdeg;", AidRegister.BAD_NAME, 26);
            fails("donor abcdef 1;gift 0 1 0 bbcdef;", AidRegister.BAD_NAME, 26);
            fails(THREE + "split 0 1 0 d 1 a 1;", AidRegister.BAD_NAME, 42);
            fails(THREE + "split 0 1 0 a 1 d 1;", AidRegister.BAD_NAME, 46);
            fails(THREE + "split 0 1 0 a 1 b 1 d 1;", AidRegister.BAD_NAME, 50);
            fails(THREE + "split 0 1 0 a 1 a 1;", AidRegister.BAD_NAME, 46);
            fails(THREE + "split 0 1 0 a 1 b 1 a 1;", AidRegister.BAD_NAME, 50);
            fails(THREE + "split 0 1 0 a 1 b 1 b 1;", AidRegister.BAD_NAME, 50);
            loads(THREE + "donor aa 1;split 0 1 0 a 1 aa 1 b 1;split 0 1 0 a 1 aa 1;", 2);
        });
        holds(5, "MISPLACED: a second rules, or one behind a gift, split or cash; an 11th donor, a 31st declaration or a 61st gift;"
                + " at its first word.", () -> {
            String rules = "rules 1 1 1;";
            fails(rules + " rules 999 #", AidRegister.MISPLACED, 13);
            for (String gift : new String[] {"cash 0 1 0;", "gift 0 1 0 a;", "split 0 1 0 a 1 b 1;"}) {
                fails(THREE + gift + "rules", AidRegister.MISPLACED, 30 + gift.length());
            }
            String donors = tenDonors();
            loads(donors, 0);
            fails(donors + "\ndonor a", AidRegister.MISPLACED, donors.length() + 1);
            String declarations = "donor a 1;" + "declare a 0 0;".repeat(30);
            loads(declarations, 0);
            fails(declarations + "declare", AidRegister.MISPLACED, declarations.length());
            String gifts = THREE + "gift 0 1 0 a;split 0 1 0 a 1 b 1;" + "cash 0 1 0;".repeat(58);
            loads(gifts, 60);
            for (String word : "gift split cash".split(" ")) {
                fails(gifts + word + " 10000", AidRegister.MISPLACED, gifts.length());
            }
            loads(gifts + "declare a 0 0;donor z 1;", 60);
        });
    }
}
