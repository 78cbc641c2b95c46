/** Promises 34 to 42: what declarations and splits bring. */
final class AdviceTests {
    private AdviceTests() {
    }

    static void all() {
        Check.test("promise 34: useOf", AdviceTests::uses);
        Check.test("promise 35: benefitRoom", AdviceTests::room);
        Check.test("promise 36: topDonor", AdviceTests::tops);
        Check.test("promise 37: bestYear", AdviceTests::years);
        Check.test("promise 38: longestSpan", AdviceTests::spans);
        Check.test("promise 39: gainOf", AdviceTests::gains);
        Check.test("promise 40: bestAsked", AdviceTests::asking);
        Check.test("promise 41: neededSpan", AdviceTests::needs);
        Check.test("promise 41: neededSpan under a tax limit", AdviceTests::limitedNeeds);
        Check.test("promise 42: gainOfSplit", AdviceTests::splits);
    }

    private static void uses() {
        AidRegister register = Texts.register("donor a 30;donor b 99;declare a 0 50;declare a 40 99;declare b 0 99;declare b 20 30;"
                + "gift 10 100 0 a;gift 45 40 0 a;gift 60 40 0 a;gift 25 40 0 b;");
        int[] due = {10, 0, 0, 0};
        for (int declaration = 0; declaration < due.length; declaration++) {
            Check.same("useOf(" + declaration + ")", register.useOf(declaration), due[declaration]);
        }
        register.setTaxLimit(0, 999);
        Check.same("useOf(0) with a high limit", register.useOf(0), 25);
        Check.same("useOf(1) with a high limit", register.useOf(1), 10);
        Check.same("a question is no change", register.totalAid(), 55);
        Check.same("of the day 0", Texts.register("donor a 9;declare a 0 0;gift 0 4 0 a;").useOf(0), 1);
        Check.noIndex("useOf(4)", () -> register.useOf(4));
        Check.noIndex("useOf(-1)", () -> register.useOf(-1));
    }

    private static void room() {
        AidRegister register = Texts.register("rules 25 0 33;donor a 9;gift 0 10 0 a;gift 0 999999 0 a;cash 0 3 0;");
        Check.same("benefitRoom(0)", register.benefitRoom(0), 3);
        Check.same("benefitRoom(1)", register.benefitRoom(1), 329999);
        Check.same("benefitRoom(2)", register.benefitRoom(2), 0);
        register.refund(0, 10);
        Check.same("refunds do not matter", register.benefitRoom(0), 3);
        Check.noIndex("benefitRoom(3)", () -> register.benefitRoom(3));
        Check.noIndex("benefitRoom(-1)", () -> register.benefitRoom(-1));
    }

    private static void tops() {
        AidRegister register = Texts.register("donor a 5;donor b 99;donor c 4;declare a 0 99;declare b 0 9;declare c 0 99;"
                + "gift 0 100 0 a;gift 50 200 0 b;gift 400 9 0 c;gift 1 9 0 c;gift 1 4 0 b;gift 60 20 0 c;gift 70 200 0 a;");
        register.setTaxLimit(0, 1);
        int[] due = {0, 0, 2, 0, 2};
        for (int what = 0; what < 5; what++) {
            Check.same("topDonor(" + what + ")", register.topDonor(what), due[what]);
        }
        register.claim(60);
        Check.same("topDonor(3)", register.topDonor(3), 2);
        register.refund(6, 200);
        register.addGift(2, 0, 166, 0);
        Check.same("a tie of b and c", register.topDonor(0), 1);
        Check.noArgument("topDonor(-1)", () -> register.topDonor(-1));
        Check.noArgument("topDonor(5)", () -> register.topDonor(5));
        Check.same("without donors", new AidRegister().topDonor(0), -1);
        Check.noArgument("without donors", () -> new AidRegister().topDonor(5));
        Check.same("all of nothing", Texts.register("donor a 1;donor b 1;").topDonor(4), 0);
    }

    private static void years() {
        AidRegister register = Texts.register("donor a 30;donor b 99;declare a 0 9999;gift 9999 40 0 a;gift 364 80 0 a;gift 365 40 0 a;"
                + "gift 729 40 0 a;gift 3 400 0 b;");
        Check.same("a tie", register.bestYear(), 0);
        register.addGift(0, 500, 4, 0);
        Check.same("year 1", register.bestYear(), 1);
        register.declare(1, 3, 3);
        Check.same("year 0", register.bestYear(), 0);
        register.setRate(0);
        Check.same("no aid", register.bestYear(), -1);
        register.setRate(25);
        register.revoke(0, 9999);
        register.addGift(0, 9999, 400, 0);
        Check.same("year 0 still", register.bestYear(), 0);
        AidRegister late = Texts.register("donor a 30;declare a 9990 9999;gift 9999 4 0 a;");
        Check.same("year 27", late.bestYear(), 27);
    }

    private static void spans() {
        AidRegister register = Texts.register("donor a 1;donor b 1;donor c 1;declare a 10 19;declare a 30 44;declare a 20 25;declare b 0 9999;"
                + "declare a 26 27;");
        Check.same("three that touch", register.longestSpan(0), 18);
        Check.same("all days", register.longestSpan(1), 10000);
        Check.same("no days", register.longestSpan(2), 0);
        register.revoke(3, 22);
        Check.same("the other span", register.longestSpan(0), 18);
        register.revoke(2, 22);
        Check.same("15 days", register.longestSpan(0), 15);
        AidRegister reverse = Texts.register("donor a 1;donor b 1;declare a 30 39;declare a 20 29;declare a 10 19;declare b 9999 9999;");
        Check.same("three in reverse", reverse.longestSpan(0), 30);
        Check.same("the last day", reverse.longestSpan(1), 1);
        Check.same("one alone", Texts.register("donor a 1;declare a 5 9;").longestSpan(0), 5);
        Check.noIndex("longestSpan(3)", () -> register.longestSpan(3));
        Check.noIndex("longestSpan(-1)", () -> register.longestSpan(-1));
    }

    private static void gains() {
        AidRegister register = Texts.register("donor a 30;donor b 99;declare a 0 9;gift 5 80 0 a;gift 10 80 0 a;gift 20 40 20 a;"
                + "split 400 80 0 b 1 a 1;");
        Check.same("within what is declared", register.gainOf(0, 0, 9), 0);
        Check.same("one more, limited", register.gainOf(0, 10, 10), 10);
        Check.same("a spoilt one", register.gainOf(0, 20, 20), 0);
        Check.same("all", register.gainOf(0, 0, 9999), 20);
        Check.same("of b", register.gainOf(1, 400, 9999), 10);
        Check.same("of b before", register.gainOf(1, 0, 399), 0);
        while (register.count(1) < 30) {
            register.declare(0, 0, 0);
        }
        Check.same("with 30 declarations", register.gainOf(1, 0, 9999), 10);
        Check.same("a question is no change", register.count(1), 30);
        Check.noIndex("gainOf(2, 1, 0)", () -> register.gainOf(2, 1, 0));
        Check.noIndex("gainOf(-1, 0, 0)", () -> register.gainOf(-1, 0, 0));
        Check.noArgument("gainOf(0, 1, 0)", () -> register.gainOf(0, 1, 0));
        Check.noArgument("gainOf(0, -1, 0)", () -> register.gainOf(0, -1, 0));
        Check.noArgument("gainOf(0, 0, 10000)", () -> register.gainOf(0, 0, 10000));
    }

    private static void asking() {
        AidRegister register = Texts.register("donor a 99;donor b 99;donor c 5;declare a 0 99;gift 0 40 0 a;gift 0 40 0 b;gift 900 40 0 a;"
                + "gift 0 4000 0 c;");
        Check.same("a tie", register.bestAsked(), 0);
        register.addGift(1, 1, 4, 0);
        Check.same("one penny more", register.bestAsked(), 1);
        register.declare(1, 0, 9999);
        register.declare(0, 0, 9999);
        Check.same("the limited one", register.bestAsked(), 2);
        register.setTaxLimit(2, 1);
        Check.same("for a penny", register.bestAsked(), 2);
        register.setTaxLimit(2, 0);
        Check.same("nobody", register.bestAsked(), -1);
    }

    private static void needs() {
        AidRegister register = Texts.register("donor a 999;donor b 999;declare a 20 29;gift 25 40 0 a;gift 50 40 0 a;gift 10 40 0 a;"
                + "gift 90 3 0 a;gift 95 40 40 a;");
        Check.same("first day", register.neededSpan(0, false), 10);
        Check.same("last day", register.neededSpan(0, true), 50);
        Check.same("nothing needed", register.neededSpan(1, false), -1);
        register.declare(0, 0, 49);
        Check.same("first day", register.neededSpan(0, false), 50);
        Check.same("last day", register.neededSpan(0, true), 50);
        AidRegister wide = Texts.register("donor a 999;gift 9999 40 0 a;gift 0 40 0 a;");
        Check.same("first day", wide.neededSpan(0, false), 0);
        Check.same("last day", wide.neededSpan(0, true), 9999);
        Check.noIndex("neededSpan(2, true)", () -> register.neededSpan(2, true));
        Check.noIndex("neededSpan(-1, false)", () -> register.neededSpan(-1, false));
    }

    private static void limitedNeeds() {
        AidRegister register = Texts.register("donor a 20;gift 10 40 0 a;gift 20 40 0 a;gift 31 40 0 a;gift 41 40 0 a;gift 41 4 0 a;");
        Check.same("the earliest of two as short", register.neededSpan(0, false), 10);
        Check.same("its last day", register.neededSpan(0, true), 20);
        register.setTaxLimit(0, 11);
        Check.same("the gifts of one day", register.neededSpan(0, false), 41);
        Check.same("its last day", register.neededSpan(0, true), 41);
        register.setTaxLimit(0, 10);
        Check.same("one gift is enough", register.neededSpan(0, true), 10);
        register.addGift(0, 365, 40, 0);
        Check.same("with the next year", register.neededSpan(0, false), 41);
        Check.same("its last day", register.neededSpan(0, true), 365);
        register.setTaxLimit(0, 0);
        Check.same("nothing", register.neededSpan(0, true), -1);
    }

    private static void splits() {
        AidRegister register = Texts.register("donor a 10;donor b 99;donor c 9;declare a 0 99;declare b 0 9;gift 5 80 0 a;gift 50 80 0 b;"
                + "gift 60 80 0 a;split 5 80 0 a 1 b 1;cash 0 80 0;gift 5 80 0 b;");
        Check.same("to a donor with room", register.gainOfSplit(0, 1), 10);
        Check.same("to a donor without a declaration", register.gainOfSplit(5, 2), -10);
        Check.same("to a limited donor", register.gainOfSplit(5, 0), -10);
        Check.same("of an undeclared gift", register.gainOfSplit(1, 0), 0);
        Check.same("to the same donor", register.gainOfSplit(0, 0), 0);
        Check.same("two parts", register.gainOfSplit(3, 2), 0);
        Check.same("no parts", register.gainOfSplit(4, 1), 0);
        Check.same("a question is no change", register.gift(0, 3), 1);
        register.refund(0, 1);
        Check.same("a refund", register.gainOfSplit(0, 1), 0);
        register.claim(5);
        Check.same("something is claimed", register.gainOfSplit(5, 2), 0);
        Check.noIndex("gainOfSplit(6, 0)", () -> register.gainOfSplit(6, 0));
        Check.noIndex("gainOfSplit(-1, 0)", () -> register.gainOfSplit(-1, 0));
        Check.noIndex("gainOfSplit(0, 3)", () -> register.gainOfSplit(0, 3));
        Check.noIndex("gainOfSplit(0, -1)", () -> register.gainOfSplit(0, -1));
    }
}
