/** Promises 18 to 24 and 50 to 52: changes, and what takes them back. */
final class ChangeTests {
    private ChangeTests() {
    }

    static void all() {
        Check.test("promise 18: declare", ChangeTests::declaring);
        Check.test("promise 19: revoke", ChangeTests::revoking);
        Check.test("promise 20: addGift", ChangeTests::addingGifts);
        Check.test("promise 21: split", ChangeTests::splitting);
        Check.test("promise 21: split refuses", ChangeTests::refusedSplits);
        Check.test("promise 22: refund", ChangeTests::refunding);
        Check.test("promise 23: setTaxLimit", ChangeTests::settingTaxLimits);
        Check.test("promise 24: setRate", ChangeTests::settingRates);
        Check.test("promise 50: undo takes back each change", ChangeTests::undoing);
        Check.test("promise 50: undo of at most 10 changes", ChangeTests::undoingTen);
        Check.test("promise 51: saveState", ChangeTests::saving);
        Check.test("promise 52: restoreState", ChangeTests::restoring);
    }

    private static void declaring() {
        AidRegister register = Texts.register("donor a 999;donor b 999;declare a 5 5;gift 9 100 0 b;");
        Check.same("declare", register.declare(1, 9, 9), 1);
        Check.same("its donor", register.declaration(1, 0), 1);
        Check.same("its first day", register.declaration(1, 1), 9);
        Check.same("the aid", register.totalAid(), 25);
        Check.noIndex("declare(2, 1, 0)", () -> register.declare(2, 1, 0));
        Check.noIndex("declare(-1, 0, 0)", () -> register.declare(-1, 0, 0));
        Check.noArgument("declare(0, 1, 0)", () -> register.declare(0, 1, 0));
        Check.noArgument("declare(0, -1, 0)", () -> register.declare(0, -1, 0));
        Check.noArgument("declare(0, 0, 10000)", () -> register.declare(0, 0, 10000));
        Check.same("changes", register.count(9), 1);
        for (int declaration = 2; declaration < 30; declaration++) {
            Check.same("declare", register.declare(0, 0, 9999), declaration);
        }
        Check.noArgument("a 31st of wrong days", () -> register.declare(0, 1, 0));
        Check.noState("a 31st", () -> register.declare(0, 0, 0));
        Check.same("declarations", register.count(1), 30);
    }

    private static void revoking() {
        AidRegister register = Texts.register("donor a 999;declare a 5 20;gift 10 100 0 a;");
        Check.same("from behind the last day on", register.revoke(0, 21), 0);
        Check.same("from the last day on", register.revoke(0, 20), 1);
        Check.same("the aid", register.totalAid(), 25);
        Check.same("from the day of the gift on", register.revoke(0, 10), 10);
        Check.same("the aid", register.totalAid(), 0);
        Check.same("a later day", register.revoke(0, 15), 0);
        Check.same("the last day is not put off", register.declaration(0, 2), 9);
        Check.same("from before the first day on", register.revoke(0, 3), 5);
        Check.same("the last day", register.declaration(0, 2), 2);
        Check.same("again", register.revoke(0, 0), 0);
        Check.same("the last day", register.declaration(0, 2), -1);
        Check.same("each was a change", register.count(9), 6);
        Check.noIndex("revoke(1, -1)", () -> register.revoke(1, -1));
        Check.noIndex("revoke(-1, 0)", () -> register.revoke(-1, 0));
        Check.noArgument("revoke(0, -1)", () -> register.revoke(0, -1));
        Check.noArgument("revoke(0, 10000)", () -> register.revoke(0, 10000));
    }

    private static void addingGifts() {
        AidRegister register = Texts.register("donor a 999999;declare a 0 9999;");
        Check.same("of a donor", register.addGift(0, 9999, 999999, 999999), 0);
        Check.same("of nobody known", register.addGift(-1, 0, 1, 0), 1);
        Check.same("parts", register.gift(0, 3), 1);
        Check.same("no parts", register.gift(1, 3), 0);
        Check.same("the day", register.gift(0, 0), 9999);
        Check.same("the amount of the part", register.part(0, 0, 1), 999999);
        Check.same("the benefit", register.gift(0, 2), 999999);
        Check.noIndex("addGift(1, -1, 1, 0)", () -> register.addGift(1, -1, 1, 0));
        Check.noIndex("addGift(-2, 0, 1, 0)", () -> register.addGift(-2, 0, 1, 0));
        int[][] wrong = {{-1, 1, 0}, {10000, 1, 0}, {0, 0, 0}, {0, 1000000, 0}, {0, 1, -1}, {0, 1, 1000000}};
        for (int[] w : wrong) {
            Check.noArgument("addGift(0, " + w[0] + ", " + w[1] + ", " + w[2] + ")", () -> register.addGift(0, w[0], w[1], w[2]));
        }
        Check.same("changes", register.count(9), 2);
        for (int gift = 2; gift < 60; gift++) {
            Check.same("addGift", register.addGift(gift % 2 - 1, gift, 100, 0), gift);
        }
        Check.noArgument("a 61st of no amount", () -> register.addGift(0, 0, 0, 0));
        Check.noState("a 61st", () -> register.addGift(0, 0, 1, 0));
        Check.same("the aid", register.totalAid(), 29 * 25);
    }

    private static void splitting() {
        AidRegister register = Texts.register("donor a 999;donor b 999;declare b 0 9999;gift 0 101 0 a;gift 0 101 0 a;gift 0 1 0 b;");
        Check.same("split", register.split(0, 1, 1, 1), 50);
        Check.same("the parts", register.gift(0, 3), 2);
        Check.same("the first donor", register.part(0, 0, 0), 0);
        Check.same("the first amount", register.part(0, 0, 1), 51);
        Check.same("the other donor", register.part(0, 1, 0), 1);
        Check.same("the aid", register.totalAid(), 12);
        Check.same("split 9 to 2", register.split(1, 9, 1, 2), 18);
        Check.same("what is left of the first", register.part(1, 0, 2), 83);
        Check.same("split of a penny", register.split(2, 1, 0, 9), 0);
        Check.same("the penny", register.part(2, 0, 1), 1);
        Check.same("changes", register.count(9), 3);
    }

    private static void refusedSplits() {
        AidRegister register = Texts.register("donor a 999;donor b 999;donor c 9;declare a 0 9999;gift 0 100 0 a;gift 0 100 0 a;"
                + "split 0 100 0 a 1 b 1;cash 0 100 0;gift 900 100 0 a;");
        register.claim(0);
        register.refund(1, 1);
        register.refund(0, 100);
        Check.noIndex("split(5, 0, 1, 1)", () -> register.split(5, 0, 1, 1));
        Check.noIndex("split(-1, 1, 1, 1)", () -> register.split(-1, 1, 1, 1));
        Check.noIndex("split(4, 0, 3, 1)", () -> register.split(4, 0, 3, 1));
        Check.noIndex("split(4, 1, -1, 1)", () -> register.split(4, 1, -1, 1));
        Check.noArgument("split(4, 0, 1, 1)", () -> register.split(4, 0, 1, 1));
        Check.noArgument("split(4, 10, 1, 1)", () -> register.split(4, 10, 1, 1));
        Check.noArgument("split(4, 1, 1, 0)", () -> register.split(4, 1, 1, 0));
        Check.noArgument("split(2, 1, 2, 10)", () -> register.split(2, 1, 2, 10));
        Check.noArgument("split(4, 1, 0, 1)", () -> register.split(4, 1, 0, 1));
        Check.noArgument("the same donor of a gift with a refund", () -> register.split(1, 1, 0, 1));
        Check.noState("two parts", () -> register.split(2, 1, 2, 1));
        Check.noState("the donor of the first of two parts", () -> register.split(2, 1, 0, 1));
        Check.noState("no parts", () -> register.split(3, 1, 2, 1));
        Check.noState("a refund", () -> register.split(1, 1, 1, 1));
        Check.same("changes", register.count(9), 3);
        AidRegister paid = Texts.register("donor a 999;donor b 999;declare a 0 9999;gift 0 100 0 a;");
        paid.claim(0);
        Check.noState("something is claimed", () -> paid.split(0, 1, 1, 1));
        paid.revoke(0, 0);
        Check.noState("something is claimed still", () -> paid.split(0, 1, 1, 1));
        paid.claim(0);
        Check.same("all was paid back", paid.split(0, 1, 1, 1), 50);
    }

    private static void refunding() {
        AidRegister register = Texts.register("rules 100 0 100;donor a 999;donor b 999;donor c 999;declare a 0 0;declare b 0 0;"
                + "declare c 0 0;split 0 30 0 a 1 b 1 c 1;cash 0 5 0;gift 0 999999 0 a;");
        Check.same("from the last part", register.refund(0, 4), 26);
        Check.same("c", register.part(0, 2, 2), 6);
        Check.same("b", register.part(0, 1, 2), 10);
        Check.same("over two parts", register.refund(0, 9), 17);
        Check.same("c", register.part(0, 2, 2), 0);
        Check.same("b", register.part(0, 1, 2), 7);
        Check.same("the wish of b", register.part(0, 1, 3), 7);
        Check.noState("more than is left", () -> register.refund(0, 18));
        Check.same("all the rest", register.refund(0, 17), 0);
        Check.same("a", register.part(0, 0, 2), 0);
        Check.same("the amount of a", register.part(0, 0, 1), 10);
        Check.same("of nobody known", register.refund(1, 2), 3);
        Check.noState("of nobody known, more", () -> register.refund(1, 4));
        Check.same("the greatest amount", register.refund(2, 999999), 0);
        Check.noIndex("refund(3, 0)", () -> register.refund(3, 0));
        Check.noIndex("refund(-1, 1)", () -> register.refund(-1, 1));
        Check.noArgument("refund(1, 0)", () -> register.refund(1, 0));
        Check.noArgument("refund(1, 1000000)", () -> register.refund(1, 1000000));
        Check.same("changes", register.count(9), 5);
    }

    private static void settingTaxLimits() {
        AidRegister register = Texts.register("donor a 7;donor b 8;declare b 0 9;gift 5 100 0 b;");
        Check.same("setTaxLimit", register.setTaxLimit(1, 999999), 8);
        Check.same("the aid", register.totalAid(), 25);
        Check.same("to 0", register.setTaxLimit(1, 0), 999999);
        Check.same("the aid", register.totalAid(), 0);
        Check.same("the other limit", register.taxLimit(0), 7);
        Check.same("the same again", register.setTaxLimit(1, 0), 0);
        Check.same("changes", register.count(9), 3);
        Check.noIndex("setTaxLimit(2, -1)", () -> register.setTaxLimit(2, -1));
        Check.noIndex("setTaxLimit(-1, 0)", () -> register.setTaxLimit(-1, 0));
        Check.noArgument("setTaxLimit(0, -1)", () -> register.setTaxLimit(0, -1));
        Check.noArgument("setTaxLimit(0, 1000000)", () -> register.setTaxLimit(0, 1000000));
    }

    private static void settingRates() {
        AidRegister register = Texts.register("donor a 999;declare a 0 9;gift 5 99 0 a;");
        Check.same("setRate", register.setRate(100), 25);
        Check.same("the aid", register.totalAid(), 99);
        Check.same("setRate", register.setRate(0), 100);
        Check.same("the aid", register.totalAid(), 0);
        Check.same("count(5)", register.count(5), 0);
        Check.noArgument("setRate(-1)", () -> register.setRate(-1));
        Check.noArgument("setRate(101)", () -> register.setRate(101));
        Check.same("changes", register.count(9), 2);
    }

    private static void undoing() {
        AidRegister register = Texts.register("donor a 999;donor b 999;declare a 0 9999;gift 0 100 0 a;gift 0 100 0 a;");
        register.refund(0, 10);
        register.claim(5);
        register.setRate(50);
        register.setTaxLimit(0, 1);
        register.revoke(0, 0);
        register.declare(1, 0, 0);
        register.addGift(1, 1, 1, 0);
        register.split(2, 1, 0, 1);
        Check.same("undo", register.undo(), 7);
        Check.same("the split", register.gift(2, 3), 1);
        Check.same("undo", register.undo(), 6);
        Check.same("the gift", register.count(2), 2);
        Check.same("undo", register.undo(), 5);
        Check.same("the declaration", register.count(1), 1);
        Check.same("undo", register.undo(), 4);
        Check.same("the last day", register.declaration(0, 2), 9999);
        Check.same("undo", register.undo(), 3);
        Check.same("the tax limit", register.taxLimit(0), 999);
        Check.same("the aid", register.totalAid(), 95);
        Check.same("undo", register.undo(), 2);
        Check.same("the rate", register.count(5), 25);
        Check.same("undo", register.undo(), 1);
        Check.same("the claims", register.count(4), 0);
        Check.same("the claimed amount", register.part(0, 0, 5), 0);
        Check.same("undo", register.undo(), 0);
        Check.same("what is left", register.gift(0, 4), 100);
        Check.same("undo", register.undo(), -1);
        Check.same("undo again", register.undo(), -1);
    }

    private static void undoingTen() {
        AidRegister register = Texts.register("donor a 0;");
        for (int limit = 1; limit <= 13; limit++) {
            register.setTaxLimit(0, limit);
        }
        Check.same("changes", register.count(9), 10);
        Check.same("undo", register.undo(), 9);
        Check.same("undo", register.undo(), 8);
        Check.same("the tax limit", register.taxLimit(0), 11);
        register.setTaxLimit(0, 50);
        Check.same("changes", register.count(9), 9);
        for (int left = 8; left >= 0; left--) {
            Check.same("undo", register.undo(), left);
        }
        Check.same("the tax limit", register.taxLimit(0), 3);
        Check.same("undo", register.undo(), -1);
        Check.same("the tax limit", register.taxLimit(0), 3);
    }

    private static void saving() {
        AidRegister register = Texts.register("donor a 999;declare a 0 9999;gift 0 100 0 a;");
        register.claim(0);
        Check.same("saveState", register.saveState(), 1);
        Check.same("changes", register.count(9), 1);
        register.addGift(0, 1, 1, 1);
        Check.same("saveState", register.saveState(), 2);
        register.undo();
        register.undo();
        Check.same("gifts", register.count(2), 1);
        Check.same("claims", register.count(4), 0);
        Check.same("restoreState of the later state", register.restoreState(), 2);
        Check.same("claims", register.count(4), 1);
        Check.same("the claimed amount", register.part(0, 0, 5), 25);
        Check.same("what was claimed", register.claimed(0, 1), 25);
    }

    private static void restoring() {
        AidRegister register = Texts.register("donor a 999;declare a 0 9999;gift 0 100 0 a;");
        Check.noState("restoreState", register::restoreState);
        register.setRate(30);
        register.saveState();
        register.refund(0, 100);
        register.revoke(0, 0);
        register.setTaxLimit(0, 1);
        register.claim(9);
        register.printStatement(0);
        Texts.load(register, "x");
        Texts.append(register, "x");
        Check.same("restoreState", register.restoreState(), 1);
        Check.same("the rate", register.count(5), 30);
        Check.same("the aid", register.totalAid(), 30);
        Check.same("claims", register.count(4), 0);
        Check.same("the tax limit", register.taxLimit(0), 999);
        Check.same("changes", register.count(9), 0);
        Check.same("undo", register.undo(), -1);
        Check.same("the output is not restored", Texts.output(register), "0:0+0\n");
        Check.same("nor the error", register.errorCode(), AidRegister.SYNTAX);
        Check.yes("nor the buffer", register.truncateInput(1));
        register.setRate(1);
        Check.same("restoreState again", register.restoreState(), 1);
        Check.same("the rate", register.count(5), 30);
        register.claim(5);
        register.saveState();
        register.undo();
        register.claim(7);
        register.restoreState();
        Check.same("the day of the restored claim", register.claimed(0, 0), 5);
    }
}
