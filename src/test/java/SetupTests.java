/** Promises 1 to 6: a new object, the input buffer, the setup text and its errors. */
final class SetupTests {
    private SetupTests() {
    }

    static void all() {
        Check.test("promise 1: a new object is as if an empty text was loaded", SetupTests::newObject);
        Check.test("promise 1: objects do not share what they hold", SetupTests::objectsAreTheirOwn);
        Check.test("promise 2: appendInput puts the most significant byte first", SetupTests::appendsBytes);
        Check.test("promise 2: appendInput stops at 900 bytes", SetupTests::appendsUpToLimit);
        Check.test("promise 3: truncateInput", SetupTests::truncates);
        Check.test("promise 4: loadRegister replaces everything", SetupTests::loadReplaces);
        Check.test("promise 4: loadRegister empties the buffer", SetupTests::loadEmptiesBuffer);
        Check.test("promise 4: an error changes nothing but the buffer", SetupTests::errorChangesNothing);
        Check.test("promise 4: tokens may stand close together or apart", SetupTests::spacing);
        Check.test("promise 4: nothing of an earlier text is left", SetupTests::nothingIsLeft);
        Check.test("promise 4: the weights share out an amount", SetupTests::sharing);
        Check.test("promise 5: errorCode", SetupTests::errorCodes);
        Check.test("promise 6: errorOffset", SetupTests::errorOffsets);
        Check.test("promises 5 and 6: SYNTAX", SetupTests::syntax);
        Check.test("promises 5 and 6: OUT_OF_RANGE", SetupTests::ranges);
        Check.test("promises 5 and 6: BAD_NAME", SetupTests::names);
        Check.test("promises 5 and 6: MISPLACED", SetupTests::misplaced);
        Check.test("promises 5 and 6: the first of several errors", SetupTests::firstError);
    }

    private static void newObject() {
        AidRegister register = new AidRegister();
        int[] due = {0, 0, 0, 0, 0, 25, 1460, 25, 0, 0};
        for (int what = 0; what < due.length; what++) {
            Check.same("count(" + what + ")", register.count(what), due[what]);
        }
        Check.same("errorCode", register.errorCode(), AidRegister.NO_ERROR);
        Check.same("errorOffset", register.errorOffset(), -1);
        Check.same("outputByte", register.outputByte(0), -1);
        Check.same("undo", register.undo(), -1);
        Check.yes("the buffer is empty", !register.truncateInput(1));
        Check.noState("restoreState", register::restoreState);
        Check.noIndex("taxLimit(0)", () -> register.taxLimit(0));
        Check.noIndex("gift(0, 0)", () -> register.gift(0, 0));
        Check.noIndex("claimed(0, 0)", () -> register.claimed(0, 0));
    }

    private static void objectsAreTheirOwn() {
        AidRegister one = Texts.register("donor ann 1;");
        AidRegister other = new AidRegister();
        one.addGift(0, 1, 1, 1);
        Check.same("the donors of the other", other.count(0), 0);
        Check.same("the gifts of the other", other.count(2), 0);
    }

    private static void appendsBytes() {
        AidRegister register = new AidRegister();
        int donor = 'd' << 24 | 'o' << 16 | 'n' << 8 | 'o';
        int name = 'r' << 24 | ' ' << 16 | 'a' << 8 | ' ';
        int number = '1' << 24 | '2' << 16 | '3' << 8 | ';';
        int spaces = ' ' << 24 | '\n' << 16 | ' ' << 8 | '\n';
        Check.same("appendInput", register.appendInput(donor, name, number, spaces, spaces), 20);
        Check.same("loadRegister", register.loadRegister(), 0);
        Check.same("taxLimit", register.taxLimit(0), 123);
        Check.same("appendInput", register.appendInput(0x20202020, 0x0a0a0aff, 0, 0, 0), 20);
        Check.same("loadRegister", register.loadRegister(), -1);
        Check.same("the offset of a byte above 127", register.errorOffset(), 7);
    }

    private static void appendsUpToLimit() {
        AidRegister register = new AidRegister();
        int spaces = 0x20202020;
        for (int length = 20; length <= 900; length += 20) {
            Check.same("appendInput", register.appendInput(spaces, spaces, spaces, spaces, spaces), length);
        }
        Check.same("appendInput to 920", register.appendInput(-1, -1, -1, -1, -1), -1);
        register.truncateInput(881);
        Check.same("appendInput to 901", register.appendInput(-1, -1, -1, -1, -1), -1);
        Check.yes("the length is still 881", register.truncateInput(881) && !register.truncateInput(882));
        register.truncateInput(880);
        Check.same("appendInput to 900", register.appendInput(spaces, spaces, spaces, spaces, spaces), 900);
        Check.same("a load of 900 spaces", register.loadRegister(), 0);
    }

    private static void truncates() {
        AidRegister register = new AidRegister();
        Texts.append(register, "donor ann 57;donor b");
        Check.yes("not to -1", !register.truncateInput(-1));
        Check.yes("not to 21", !register.truncateInput(21));
        Check.yes("to 20", register.truncateInput(20));
        Check.yes("to 13", register.truncateInput(13));
        Check.yes("not to 14 then", !register.truncateInput(14));
        Check.same("loadRegister", register.loadRegister(), 0);
        Check.same("count(0)", register.count(0), 1);
        Check.yes("to 0 of 0", register.truncateInput(0));
    }

    private static void loadReplaces() {
        AidRegister register = Texts.register("rules 30 7 40;donor a 900;donor b 9;declare a 1 2;gift 1 100 0 a;");
        register.refund(0, 1);
        register.claim(2);
        register.saveState();
        Check.same("loadRegister", Texts.load(register, "donor c 77; gift 5 10 0 c; cash 6 20 0; declare c 5 5;"), 2);
        int[] due = {1, 1, 2, 1, 0, 25, 1460, 25, 0, 0};
        for (int what = 0; what < due.length; what++) {
            Check.same("count(" + what + ")", register.count(what), due[what]);
        }
        Check.same("taxLimit", register.taxLimit(0), 77);
        Check.same("what is left", register.gift(0, 4), 10);
        Check.same("what is claimed", register.gift(0, 7), 0);
        Check.same("the aid", register.totalAid(), 2);
        Check.same("undo", register.undo(), -1);
        Check.noState("restoreState", register::restoreState);
        Check.same("an empty text", register.loadRegister(), 0);
        Check.same("the donors of an empty text", register.count(0), 0);
    }

    private static void loadEmptiesBuffer() {
        AidRegister register = new AidRegister();
        Texts.load(register, "donor a 1;");
        Check.yes("empty behind a load", !register.truncateInput(1));
        Texts.load(register, "donor a;");
        Check.yes("empty behind an error", !register.truncateInput(1));
        Check.same("errorCode", register.errorCode(), AidRegister.SYNTAX);
        Check.same("count(0)", register.count(0), 1);
    }

    private static void errorChangesNothing() {
        AidRegister register = Texts.register("rules 30 7 40;donor a 900;declare a 1 2;gift 1 100 0 a;");
        register.refund(0, 1);
        register.saveState();
        register.claim(2);
        register.printStatement(0);
        Check.same("loadRegister", Texts.load(register, "rules 1 2 3;donor x 5;gift 9 9 9 x;gift 1 1 1 y;"), -1);
        int[] due = {1, 1, 1, 0, 1, 30, 7, 40, 0, 2};
        for (int what = 0; what < due.length; what++) {
            Check.same("count(" + what + ")", register.count(what), due[what]);
        }
        Check.same("taxLimit", register.taxLimit(0), 900);
        Check.same("the claimed amount", register.part(0, 0, 5), 29);
        Check.same("the output", Texts.output(register), "1:99+29\n");
        Check.same("undo", register.undo(), 1);
        Check.same("restoreState", register.restoreState(), 1);
    }

    private static void spacing() {
        Check.same("close together", Texts.load(new AidRegister(), "donor a5;cash5 6 7;gift 1 2 3a;"), 2);
        Check.same("apart", Texts.load(new AidRegister(), " \n donor\na\n\n5 ;cash 5  6\n7\n;\n "), 1);
        Check.same("spaces alone", Texts.load(new AidRegister(), " \n \n"), 0);
        AidRegister register = Texts.register("donor abcdef 000005;donor abcdeg 999999;donor gifts 0;");
        Check.same("leading noughts", register.taxLimit(0), 5);
        Check.same("the greatest number", register.taxLimit(1), 999999);
        register = Texts.register("rules 0 0 0;donor a 0;declare a 0 0;declare a 9999 9999;gift 0 1 0 a;gift 9999 999999 999999 a;");
        Check.same("the last declaration", register.declaration(1, 1), 9999);
        Check.same("the greatest amount", register.gift(1, 1), 999999);
        Check.same("the greatest benefit", register.gift(1, 2), 999999);
        register = Texts.register("rules 100 9999 100;");
        Check.same("the rate, the window and the benefit limit", register.count(5) + register.count(6) + register.count(7), 10199);
    }

    private static void nothingIsLeft() {
        String text = "rules 25 99 25;donor zz 99;donor a 99;declare zz 0 9;split 5 80 0 zz 1 a 1;gift 6 40 0 zz;";
        AidRegister register = Texts.register(text);
        register.claim(5);
        register.refund(0, 50);
        register.refund(1, 40);
        register.claim(6);
        register.useOf(0);
        Check.same("the same text again", Texts.load(register, text), 2);
        Check.same("left of the first gift", register.gift(0, 4), 80);
        Check.same("left of its parts", register.part(0, 0, 2) + register.part(0, 1, 2), 80);
        Check.same("parts of the first gift", register.gift(0, 3), 2);
        Check.same("claimed of the first gift", register.gift(0, 7), 0);
        register.claim(6);
        int[] due = {6, 20, 0, 2, 0};
        for (int what = 0; what < due.length; what++) {
            Check.same("claimed(0, " + what + ")", register.claimed(0, what), due[what]);
        }
        Check.same("a text without rules", Texts.load(register, "cash 5 6 7;"), 1);
        Check.same("the parts of its gift", register.gift(0, 3), 0);
        Check.same("the window", register.count(6), 1460);
    }

    private static void sharing() {
        AidRegister register = Texts.register("donor a 1;donor b 1;donor c 1;split 0 1000 0 a 1 b 1 c 1;split 0 11 0 c 2 a 2 b 3;"
                + "split 0 1 0 b 9 a 9;split 0 999999 0 a 9 b 8 c 9;gift 0 7 0 b;");
        int[][] due = {{334, 333, 333}, {4, 3, 4}, {1, 0}, {346154, 307692, 346153}, {7}};
        int[][] donors = {{0, 1, 2}, {2, 0, 1}, {1, 0}, {0, 1, 2}, {1}};
        for (int gift = 0; gift < due.length; gift++) {
            Check.same("the parts of " + gift, register.gift(gift, 3), due[gift].length);
            for (int part = 0; part < due[gift].length; part++) {
                Check.same("part " + part + " of " + gift, register.part(gift, part, 1), due[gift][part]);
                Check.same("donor " + part + " of " + gift, register.part(gift, part, 0), donors[gift][part]);
            }
        }
    }

    private static void errorCodes() {
        AidRegister register = new AidRegister();
        Check.same("NO_ERROR", AidRegister.NO_ERROR, 0);
        error(register, "donor", AidRegister.SYNTAX, 5);
        Check.same("SYNTAX", register.errorCode(), 1);
        error(register, "rules 101 0 0;", AidRegister.OUT_OF_RANGE, 6);
        Check.same("OUT_OF_RANGE", register.errorCode(), 2);
        error(register, "gift 0 1 0 a;", AidRegister.BAD_NAME, 11);
        Check.same("BAD_NAME", register.errorCode(), 3);
        error(register, "cash 0 1 0;rules 1 1 1;", AidRegister.MISPLACED, 11);
        Check.same("MISPLACED", register.errorCode(), 4);
        Texts.load(register, "donor a 1;");
        Check.same("errorCode behind a load", register.errorCode(), 0);
    }

    private static void errorOffsets() {
        AidRegister register = new AidRegister();
        error(register, "x;", AidRegister.SYNTAX, 0);
        register.appendInput(0, 0, 0, 0, 0);
        Check.same("errorOffset before the next load", register.errorOffset(), 0);
        register.truncateInput(0);
        register.loadRegister();
        Check.same("errorOffset behind a load", register.errorOffset(), -1);
        error(register, "donor a 1; donor b  ", AidRegister.SYNTAX, 20);
    }

    private static void error(AidRegister register, String text, int code, int offset) {
        Check.same("load of " + text, Texts.load(register, text), -1);
        Check.same("errorCode of " + text, register.errorCode(), code);
        Check.same("errorOffset of " + text, register.errorOffset(), offset);
    }

    private static void error(String text, int code, int offset) {
        error(new AidRegister(), text, code, offset);
    }

    private static void syntax() {
        String[] first = {";", "5;", "ann;", "Donor a 1;", "\tdonor a 1;", "donors a 1;", "\u00ff", "dono r a 1;"};
        for (String text : first) {
            error(text, AidRegister.SYNTAX, 0);
        }
        error("donor ;", AidRegister.SYNTAX, 6);
        error("donor 5 5;", AidRegister.SYNTAX, 6);
        for (String word : "donor declare gift split cash rules abcdefg".split(" ")) {
            error("donor " + word + " 5;", AidRegister.SYNTAX, 6);
        }
        error("donor a b;", AidRegister.SYNTAX, 8);
        error("donor a ;", AidRegister.SYNTAX, 8);
        error("donor a -1;", AidRegister.SYNTAX, 8);
        error("donor a 1", AidRegister.SYNTAX, 9);
        error("donor a 1 1;", AidRegister.SYNTAX, 10);
        error("donor a 0000001;", AidRegister.SYNTAX, 8);
        error("donor a 1;;", AidRegister.SYNTAX, 10);
        error("donor aB 1;", AidRegister.SYNTAX, 7);
        error("cash 1 1;", AidRegister.SYNTAX, 8);
        error("cash 1 1 1 a;", AidRegister.SYNTAX, 11);
        error("donor a 1;split 1 1 1 a 1;", AidRegister.SYNTAX, 25);
        error("donor a 1;donor b 1;split 1 1 1 a 1 b 1 1;", AidRegister.SYNTAX, 40);
        error("donor a 1;donor b 1;split 1 1 1 a 1 b 1 ", AidRegister.SYNTAX, 40);
        error("donor a 1;donor b 1;donor c 1;split 1 1 1 a 1 b 1 c 1 d 1;", AidRegister.SYNTAX, 54);
        error("donor a 1;donor b 1;split 1 1 1 a 1 b 1 gift 1;", AidRegister.SYNTAX, 40);
        error("donor a 1;gift 1 1 1 cash;", AidRegister.SYNTAX, 21);
    }

    private static void ranges() {
        error("donor a 1;declare a 10000 1;", AidRegister.OUT_OF_RANGE, 20);
        error("donor a 1;declare a 5 10000;", AidRegister.OUT_OF_RANGE, 22);
        error("donor a 1;declare a 5 4;", AidRegister.OUT_OF_RANGE, 22);
        error("cash 10000 1 1;", AidRegister.OUT_OF_RANGE, 5);
        error("cash 1 0 1;", AidRegister.OUT_OF_RANGE, 7);
        error("donor a 1;split 1 1 1 a 0 b 1;", AidRegister.OUT_OF_RANGE, 24);
        error("donor a 1;split 1 1 1 a 10 b 1;", AidRegister.OUT_OF_RANGE, 24);
        error("donor a 1;donor b 1;split 1 1 1 a 9 b 10;", AidRegister.OUT_OF_RANGE, 38);
        error("rules 101 1 1;", AidRegister.OUT_OF_RANGE, 6);
        error("rules 100 10000 1;", AidRegister.OUT_OF_RANGE, 10);
        error("rules 100 9999 101;", AidRegister.OUT_OF_RANGE, 15);
    }

    private static void names() {
        error("donor a 1;donor b 1;donor a 1;", AidRegister.BAD_NAME, 26);
        error("donor a 1;declare b 1 1;", AidRegister.BAD_NAME, 18);
        error("donor ab 1;declare a 1 1;", AidRegister.BAD_NAME, 19);
        error("donor a 1;gift 1 1 1 b;", AidRegister.BAD_NAME, 21);
        error("donor a 1;split 1 1 1 b 1 a 1;", AidRegister.BAD_NAME, 22);
        error("donor a 1;split 1 1 1 a 1 a 1;", AidRegister.BAD_NAME, 26);
        error("donor a 1;donor b 1;split 1 1 1 a 1 b 1 a 1;", AidRegister.BAD_NAME, 40);
        error("donor a 1;donor b 1;split 1 1 1 a 1 b 1 c 1;", AidRegister.BAD_NAME, 40);
    }

    private static String donors(int count) {
        StringBuilder text = new StringBuilder();
        for (int donor = 0; donor < count; donor++) {
            text.append("donor ").append((char) ('a' + donor)).append(" 1;");
        }
        return text.toString();
    }

    private static void misplaced() {
        error("rules 1 1 1; rules 1 1 1;", AidRegister.MISPLACED, 13);
        error("donor a 1;gift 1 1 1 a;rules 1 1 1;", AidRegister.MISPLACED, 23);
        error("donor a 1;donor b 1;split 1 1 1 a 1 b 1;rules 1 1 1;", AidRegister.MISPLACED, 40);
        Check.same("rules behind a declaration", Texts.load(new AidRegister(), "donor a 1;declare a 1 1;rules 1 1 1;"), 0);
        Check.same("10 donors", Texts.load(new AidRegister(), donors(10)), 0);
        error(donors(11), AidRegister.MISPLACED, 100);
        String declarations = "donor a 1;" + "declare a 1 1;".repeat(30);
        Check.same("30 declarations", Texts.load(new AidRegister(), declarations), 0);
        error(declarations + "declare b;", AidRegister.MISPLACED, declarations.length());
        String gifts = "donor a 1;donor b 1;split 1 1 1 a 1 b 1;" + "cash 1 1 1;".repeat(58) + "gift 1 1 1 a;";
        Check.same("60 gifts", Texts.load(new AidRegister(), gifts), 60);
        for (String word : "gift split cash".split(" ")) {
            error(gifts + word + ";", AidRegister.MISPLACED, gifts.length());
        }
    }

    private static void firstError() {
        error("donor a 1;donor donor 1;", AidRegister.SYNTAX, 16);
        error("donor a 1;gift 1 1 1 abcdefg;", AidRegister.SYNTAX, 21);
        error("cash 1 1234567 1;", AidRegister.SYNTAX, 7);
        error("cash 10000 x", AidRegister.OUT_OF_RANGE, 5);
        error("cash 1 0 #", AidRegister.OUT_OF_RANGE, 7);
        error("cash 1 # 0", AidRegister.SYNTAX, 7);
        error("rules 1 1 1;rules x", AidRegister.MISPLACED, 12);
        error("gift 1 1 1 b 10000", AidRegister.BAD_NAME, 11);
    }
}
