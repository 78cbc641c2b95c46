/** Promises 7 to 17: the properties of donors, declarations, gifts and parts. */
final class QuestionTests {
    private static final String SETUP = "donor ann 5000;donor bob 100;declare ann 100 200;"
            + "gift 150 1001 0 ann;split 150 1000 0 ann 1 bob 2;cash 10 500 126;";

    private QuestionTests() {
    }

    static void all() {
        Check.test("promise 7: count", QuestionTests::counts);
        Check.test("promise 8: declaration", QuestionTests::declarations);
        Check.test("promise 9: gift", QuestionTests::gifts);
        Check.test("promise 9: a gift is spoilt by its whole amount", QuestionTests::spoilt);
        Check.test("promise 10: part", QuestionTests::parts);
        Check.test("promise 10: the tax limit goes to the earlier gifts", QuestionTests::orderOfAid);
        Check.test("promise 11: reason", QuestionTests::reasons);
        Check.test("promise 12: donor", QuestionTests::sumsOfDonor);
        Check.test("promise 13: taxLimit", QuestionTests::taxLimits);
        Check.test("promise 14: isDeclared", QuestionTests::declared);
        Check.test("promise 15: coverage", QuestionTests::coverages);
        Check.test("promise 16: gap", QuestionTests::gaps);
        Check.test("promise 17: needless", QuestionTests::needlessOnes);
    }

    private static void counts() {
        AidRegister register = Texts.register("rules 20 300 10;" + SETUP);
        register.claim(20);
        register.claim(30);
        int[] due = {2, 1, 3, 1, 2, 20, 300, 10, 1, 2};
        for (int what = 0; what < due.length; what++) {
            Check.same("count(" + what + ")", register.count(what), due[what]);
        }
        AidRegister cash = Texts.register("cash 1 10 9;cash 1 10 9;cash 1 10 2;");
        Check.same("gifts without parts", cash.count(3), 3);
        Check.same("spoilt gifts", cash.count(8), 2);
        Check.noArgument("count(-1)", () -> register.count(-1));
        Check.noArgument("count(10)", () -> register.count(10));
    }

    private static void declarations() {
        AidRegister register = Texts.register("donor a 1;donor b 1;declare b 7 7;declare a 10 29;");
        int[][] due = {{1, 7, 7, 1}, {0, 10, 29, 20}};
        for (int declaration = 0; declaration < 2; declaration++) {
            for (int what = 0; what < 4; what++) {
                Check.same("declaration(" + declaration + ", " + what + ")", register.declaration(declaration, what),
                        due[declaration][what]);
            }
        }
        register.revoke(1, 5);
        Check.same("the last day", register.declaration(1, 2), 4);
        Check.same("the days", register.declaration(1, 3), 0);
        Check.noIndex("declaration(-1, 0)", () -> register.declaration(-1, 0));
        Check.noIndex("declaration(2, 9)", () -> register.declaration(2, 9));
        Check.noArgument("declaration(0, -1)", () -> register.declaration(0, -1));
        Check.noArgument("declaration(0, 4)", () -> register.declaration(0, 4));
    }

    private static void gifts() {
        AidRegister register = Texts.register(SETUP);
        register.claim(150);
        register.refund(1, 700);
        int[][] due = {{150, 1001, 0, 1, 1001, 0, 250, 250}, {150, 1000, 0, 2, 300, 0, 75, 83}, {10, 500, 126, 0, 500, 1, 0, 0}};
        for (int gift = 0; gift < 3; gift++) {
            for (int what = 0; what < 8; what++) {
                Check.same("gift(" + gift + ", " + what + ")", register.gift(gift, what), due[gift][what]);
            }
        }
        Check.noIndex("gift(-1, 0)", () -> register.gift(-1, 0));
        Check.noIndex("gift(3, 8)", () -> register.gift(3, 8));
        Check.noArgument("gift(0, -1)", () -> register.gift(0, -1));
        Check.noArgument("gift(0, 8)", () -> register.gift(0, 8));
    }

    private static void spoilt() {
        AidRegister register = Texts.register("rules 50 0 30;donor a 999;declare a 0 9999;gift 0 101 30 a;gift 0 101 31 a;");
        Check.same("benefit 30 of 101", register.gift(0, 5), 0);
        Check.same("benefit 31 of 101", register.gift(1, 5), 1);
        Check.same("the wish of the spoilt one", register.part(1, 0, 3), 0);
        register.refund(0, 100);
        Check.same("benefit 30 of 101 behind a refund", register.gift(0, 5), 0);
        Check.same("its wish", register.part(0, 0, 3), 0);
        register.undo();
        Check.same("its wish without the refund", register.part(0, 0, 3), 50);
    }

    private static void parts() {
        AidRegister register = Texts.register("rules 50 9999 25;donor a 60;donor b 999;declare b 5 9;declare a 5 9;"
                + "split 5 301 0 b 2 a 1;gift 4 10 0 b;");
        register.claim(5);
        register.refund(0, 101);
        int[][] due = {{1, 201, 200, 100, 100, 100}, {0, 100, 0, 0, 0, 50}};
        for (int part = 0; part < 2; part++) {
            for (int what = 0; what < 6; what++) {
                Check.same("part(0, " + part + ", " + what + ")", register.part(0, part, what), due[part][what]);
            }
        }
        register.undo();
        register.setTaxLimit(0, 49);
        Check.same("the wish", register.part(0, 1, 3), 50);
        Check.same("the aid below the tax limit", register.part(0, 1, 4), 49);
        Check.noIndex("part(-1, 0, 0)", () -> register.part(-1, 0, 0));
        Check.noIndex("part(2, 0, 0)", () -> register.part(2, 0, 0));
        Check.noIndex("part(0, -1, 0)", () -> register.part(0, -1, 0));
        Check.noIndex("part(0, 2, 6)", () -> register.part(0, 2, 6));
        Check.noIndex("part(1, 1, 0)", () -> register.part(1, 1, 0));
        Check.noArgument("part(0, 0, -1)", () -> register.part(0, 0, -1));
        Check.noArgument("part(0, 0, 6)", () -> register.part(0, 0, 6));
    }

    private static void orderOfAid() {
        AidRegister register = Texts.register("rules 100 0 0;donor a 100;donor b 50;declare a 0 9999;declare b 0 9999;"
                + "gift 364 60 0 a;gift 7 50 0 a;split 7 40 0 b 1 a 1;gift 365 90 0 a;gift 363 60 0 b;");
        int[] due = {30, 50, 20, 90, 30};
        Check.same("the later gift", register.part(0, 0, 4), due[0]);
        Check.same("the earlier gift", register.part(1, 0, 4), due[1]);
        Check.same("the split on the same day", register.part(2, 1, 4), due[2]);
        Check.same("the next year", register.part(3, 0, 4), due[3]);
        Check.same("the other donor", register.part(4, 0, 4), due[4]);
        register.addGift(0, 0, 95, 0);
        Check.same("a new first gift", register.part(5, 0, 4), 95);
        Check.same("the gift behind it", register.part(1, 0, 4), 5);
        Check.same("the split behind it", register.part(2, 1, 4), 0);
    }

    private static void reasons() {
        AidRegister register = Texts.register("rules 50 9 25;donor a 60;donor b 10;declare a 5 9;declare b 5 9;"
                + "gift 5 100 0 a;gift 6 100 0 a;gift 7 100 0 a;gift 5 10 9 a;gift 4 10 0 a;gift 5 1 0 a;split 5 1 1 a 1 b 1;"
                + "gift 4 10 10 a;");
        int[] due = {0, 5, 5, 2, 3, 4, 2, 2};
        for (int gift = 0; gift < due.length; gift++) {
            Check.same("reason(" + gift + ", 0)", register.reason(gift, 0), due[gift]);
        }
        Check.same("a part of nothing of a spoilt gift", register.reason(6, 1), 1);
        register.split(0, 1, 1, 9);
        Check.same("the greater part of b", register.reason(0, 1), 5);
        Check.same("the smaller part of a", register.reason(0, 0), 0);
        register.undo();
        register.refund(3, 10);
        Check.same("nothing left of a spoilt gift", register.reason(3, 0), 1);
        register.setRate(0);
        Check.same("the rate 0", register.reason(0, 0), 4);
        Check.same("the rate 0 without a declaration", register.reason(4, 0), 3);
        Check.noIndex("reason(8, 0)", () -> register.reason(8, 0));
        Check.noIndex("reason(-1, 0)", () -> register.reason(-1, 0));
        Check.noIndex("reason(0, 1)", () -> register.reason(0, 1));
        Check.noIndex("reason(0, -1)", () -> register.reason(0, -1));
    }

    private static void sumsOfDonor() {
        AidRegister register = Texts.register("rules 50 9999 25;donor a 60;donor b 999;declare a 0 9999;"
                + "gift 364 100 0 a;split 1 100 0 b 1 a 1;gift 365 100 0 a;gift 9999 7 0 a;cash 3 9 0;gift 2 9 0 b;");
        register.claim(364);
        register.refund(1, 10);
        int[][] due = {{140, 70, 60, 60, 2}, {100, 50, 50, 0, 1}, {7, 3, 3, 0, 1}, {247, 123, 113, 60, 4}};
        int[] years = {0, 1, 27, -1};
        for (int i = 0; i < years.length; i++) {
            for (int what = 0; what < 5; what++) {
                Check.same("donor(0, " + what + ", " + years[i] + ")", register.donor(0, what, years[i]), due[i][what]);
            }
        }
        Check.same("donor(1, 4, 0)", register.donor(1, 4, 0), 2);
        Check.noIndex("donor(-1, 0, 0)", () -> register.donor(-1, 0, 0));
        Check.noIndex("donor(2, 9, 0)", () -> register.donor(2, 9, 0));
        Check.noArgument("donor(0, -1, 0)", () -> register.donor(0, -1, 0));
        Check.noArgument("donor(0, 5, 0)", () -> register.donor(0, 5, 0));
        Check.noArgument("donor(0, 0, -2)", () -> register.donor(0, 0, -2));
        Check.noArgument("donor(0, 0, 28)", () -> register.donor(0, 0, 28));
    }

    private static void taxLimits() {
        AidRegister register = Texts.register("donor a 0;donor b 999999;");
        Check.same("taxLimit(0)", register.taxLimit(0), 0);
        Check.same("taxLimit(1)", register.taxLimit(1), 999999);
        Check.noIndex("taxLimit(2)", () -> register.taxLimit(2));
        Check.noIndex("taxLimit(-1)", () -> register.taxLimit(-1));
    }

    private static void declared() {
        AidRegister register = Texts.register("donor a 1;donor b 1;declare a 0 5;declare a 7 9999;declare b 3 3;");
        Check.yes("day 0", register.isDeclared(0, 0));
        Check.yes("day 5", register.isDeclared(0, 5));
        Check.yes("not day 6", !register.isDeclared(0, 6));
        Check.yes("day 9999", register.isDeclared(0, 9999));
        Check.yes("not day 10000", !register.isDeclared(0, 10000));
        Check.yes("not day -1", !register.isDeclared(0, -1));
        Check.yes("not the least int", !register.isDeclared(0, Integer.MIN_VALUE));
        Check.yes("not day 2 of b", !register.isDeclared(1, 2));
        register.revoke(2, 0);
        Check.yes("not day 3 of b any more", !register.isDeclared(1, 3));
        Check.noIndex("isDeclared(2, 0)", () -> register.isDeclared(2, 0));
        Check.noIndex("isDeclared(-1, 0)", () -> register.isDeclared(-1, 0));
    }

    private static void coverages() {
        AidRegister register = Texts.register("donor a 1;donor b 1;declare a 20 29;declare a 10 19;declare a 15 24;declare a 40 49;"
                + "declare b 30 39;");
        Check.same("all days", register.coverage(0, 0, 9999), 30);
        Check.same("within one", register.coverage(0, 21, 22), 2);
        Check.same("over the gap", register.coverage(0, 29, 40), 2);
        Check.same("in the gap", register.coverage(0, 30, 39), 0);
        Check.same("one day", register.coverage(0, 49, 49), 1);
        Check.same("the days behind", register.coverage(0, 50, 9999), 0);
        AidRegister alone = Texts.register("donor a 1;declare a 9999 9999;");
        Check.same("the last day alone", alone.coverage(0, 0, 9999), 1);
        Check.noIndex("coverage(2, 5, 4)", () -> register.coverage(2, 5, 4));
        Check.noIndex("coverage(-1, 0, 0)", () -> register.coverage(-1, 0, 0));
        Check.noArgument("coverage(0, 5, 4)", () -> register.coverage(0, 5, 4));
        Check.noArgument("coverage(0, -1, 4)", () -> register.coverage(0, -1, 4));
        Check.noArgument("coverage(0, 0, 10000)", () -> register.coverage(0, 0, 10000));
        Check.noArgument("coverage(0, 10000, 10000)", () -> register.coverage(0, 10000, 10000));
    }

    private static void gaps() {
        AidRegister register = Texts.register("donor a 1;donor b 1;donor c 1;declare a 20 29;declare a 0 9;declare a 30 39;"
                + "declare a 41 50;declare c 0 9998;");
        int[][] due = {{10, 19}, {40, 40}, {51, 9999}, {-1, -1}};
        for (int index = 0; index < due.length; index++) {
            Check.same("gap(0, " + index + ", false)", register.gap(0, index, false), due[index][0]);
            Check.same("gap(0, " + index + ", true)", register.gap(0, index, true), due[index][1]);
        }
        Check.same("the gap of b", register.gap(1, 0, false), 0);
        Check.same("its end", register.gap(1, 0, true), 9999);
        Check.same("the gap of c", register.gap(2, 0, false), 9999);
        AidRegister alone = Texts.register("donor a 1;declare a 7 9;declare a 4 6;declare a 2 3;declare a 0 0;");
        Check.same("the second day", alone.gap(0, 0, true), 1);
        Check.same("behind three in reverse", alone.gap(0, 1, false), 10);
        Check.same("and no more", alone.gap(0, 2, false), -1);
        AidRegister apart = Texts.register("donor a 1;declare a 5 5;declare a 7 7;");
        Check.same("a gap more than declarations", apart.gap(0, 2, false), 8);
        Check.same("from day 0 on", Texts.register("donor a 1;declare a 0 8;").gap(0, 0, false), 9);
        Check.same("gap(0, -1, false)", register.gap(0, -1, false), -1);
        Check.same("gap of the greatest int", register.gap(0, Integer.MAX_VALUE, false), -1);
        register.declare(1, 0, 9999);
        Check.same("no gap", register.gap(1, 0, true), -1);
        Check.noIndex("gap(3, 0, true)", () -> register.gap(3, 0, true));
        Check.noIndex("gap(-1, 0, true)", () -> register.gap(-1, 0, true));
    }

    private static void needlessOnes() {
        AidRegister register = Texts.register("donor a 1;donor b 1;declare a 10 19;declare a 20 29;declare a 15 24;declare b 0 9999;");
        Check.same("one within two that touch", register.needless(0), 1);
        register.declare(0, 10, 19);
        Check.same("two alike and one", register.needless(0), 3);
        register.revoke(2, 0);
        Check.same("two alike and one of no day", register.needless(0), 3);
        Check.same("needless(1)", register.needless(1), 0);
        AidRegister steps = Texts.register("donor a 1;declare a 5 9;declare a 3 8;declare a 0 4;");
        Check.same("the one in the middle", steps.needless(0), 1);
        AidRegister edges = Texts.register("donor a 1;declare a 5 9;declare a 5 8;declare a 0 8;");
        Check.same("not the one with the last day", edges.needless(0), 1);
        Check.noIndex("needless(2)", () -> register.needless(2));
        Check.noIndex("needless(-1)", () -> register.needless(-1));
    }
}
