/** Promises 7 to 17, sentence by sentence: the properties of donors, declarations, gifts and parts. */
final class BoundsOfQuestions extends Bounds {
    private static final String NO_GIFT = "Throws `IndexOutOfBoundsException` if there is no such gift";
    private static final String NO_PART = "Throws `IndexOutOfBoundsException` if there is no such gift or part";
    private static final String NO_WHAT = "Throws `IllegalArgumentException` if what is out of range";

    private BoundsOfQuestions() {
    }

    static void all() {
        counts();
        declarations();
        numbersOfDeclarations();
        gifts();
        spoilt();
        parts();
        shares();
        wishes();
        aid();
        reasons();
        sumsOfDonor();
        days();
        taxLimits();
        isDeclared();
        coverage();
        gap();
        needless();
    }

    // --- promise 7

    private static void counts() {
        holds(7, "`what`: 0 the donors, 1 the declarations, 2 the gifts, 3 those without parts, 4 the claims, 5 the rate, 6 the window,"
                + " 7 the benefit limit, 8 the spoilt gifts, 9 the changes that can be undone", () -> {
            AidRegister empty = new AidRegister();
            row("an empty register", empty::count, 0, 0, 0, 0, 0, 25, 1460, 25, 0, 0);
            AidRegister full = Fixtures.full();
            row("a full register", full::count, 10, 30, 60, 0, 20, 100, 9999, 100, 0, 10);
            AidRegister cash = register("rules 0 0 0;donor a 1;" + "cash 9999 1 1;".repeat(60));
            row("cash alone, all spoilt", cash::count, 1, 0, 60, 60, 0, 0, 0, 0, 60, 0);
            AidRegister some = register("donor a 1;" + "cash 0 4 2;gift 0 4 1 a;".repeat(2) + "gift 0 4 2 a;");
            row("some spoilt", some::count, 1, 0, 5, 2, 0, 25, 1460, 25, 3, 0);
        });
        holds(7, NO_WHAT, () -> {
            for (AidRegister register : new AidRegister[] {new AidRegister(), Fixtures.busy()}) {
                noArgument("count", register::count, -1, 10, 11, LEAST, GREATEST);
                register.count(0);
                register.count(9);
            }
        });
    }

    // --- promise 8

    private static void declarations() {
        holds(8, "`what`: 0 its donor, 1 its first and 2 its last day (as they are now), 3 the number of days on which it is in force", () -> {
            AidRegister register = register("donor a 5;donor b 5;declare b 0 9999;declare a 0 0;declare b 9999 9999;declare a 5 6;");
            row("all days", what -> register.declaration(0, what), 1, 0, 9999, 10000);
            row("the first day", what -> register.declaration(1, what), 0, 0, 0, 1);
            row("the last day", what -> register.declaration(2, what), 1, 9999, 9999, 1);
            row("two days", what -> register.declaration(3, what), 0, 5, 6, 2);
            register.revoke(3, 6);
            row("one day left", what -> register.declaration(3, what), 0, 5, 5, 1);
            register.revoke(3, 5);
            row("no day left", what -> register.declaration(3, what), 0, 5, 4, 0);
            register.revoke(3, 0);
            row("ended before it began", what -> register.declaration(3, what), 0, 5, -1, 0);
            register.undo();
            row("undone", what -> register.declaration(3, what), 0, 5, 4, 0);
        });
        holds(8, "Throws `IndexOutOfBoundsException` if there is no such declaration", () -> {
            AidRegister one = register("donor a 5;declare a 0 0;");
            AidRegister full = Fixtures.full();
            noIndex("of none", d -> new AidRegister().declaration(d, 0), -1, 0, 1);
            noIndex("of one", d -> one.declaration(d, 0), -1, 1, LEAST, GREATEST);
            noIndex("of thirty", d -> full.declaration(d, 0), -1, 30, LEAST, GREATEST);
            same("the first of thirty", full.declaration(0, 0), 0);
            same("the last of thirty", full.declaration(29, 0), 9);
        });
        holds(8, NO_WHAT, () -> {
            AidRegister register = register("donor a 5;declare a 0 0;");
            noArgument("declaration", what -> register.declaration(0, what), -1, 4, LEAST, GREATEST);
        });
    }

    private static void numbersOfDeclarations() {
        holds(8, "There are at most 30 in all, numbered from 0 in the order in which they are told or made.", () -> {
            StringBuilder text = new StringBuilder("donor a 5;donor b 5;");
            for (int declaration = 0; declaration < 29; declaration++) {
                text.append("declare ").append(declaration % 2 == 0 ? "b " : "a ").append(declaration).append(' ').append("99;");
            }
            AidRegister register = register(text.toString());
            same("the 30th", register.declare(0, 29, 99), 29);
            for (int declaration = 0; declaration < 30; declaration++) {
                same("the first day", register.declaration(declaration, 1), declaration);
                same("the donor", register.declaration(declaration, 0), declaration == 29 || declaration % 2 == 1 ? 0 : 1);
            }
            noState("a 31st", () -> register.declare(0, 30, 99));
        });
        holds(8, "A declaration belongs to a donor and has a first and a last day, the last one not before the first one; it is in force on"
                + " the days from the first to the last one.", () -> {
            AidRegister register = register("donor a 5;donor b 5;declare a 10 20;declare b 30 30;");
            int[] days = {9, 10, 11, 19, 20, 21, 29, 30, 31};
            boolean[] ofA = {false, true, true, true, true, false, false, false, false};
            for (int i = 0; i < days.length; i++) {
                same("a on day " + days[i], register.isDeclared(0, days[i]) ? 1 : 0, ofA[i] ? 1 : 0);
                same("b on day " + days[i], register.isDeclared(1, days[i]) ? 1 : 0, days[i] == 30 ? 1 : 0);
            }
            Check.noArgument("a last day before the first one", () -> register.declare(0, 30, 29));
            same("a last day that is the first one", register.declare(0, 30, 30), 2);
        });
    }

    // --- promise 9

    private static void gifts() {
        holds(9, "`what`: 0 its day, 1 its amount, 2 its benefit, 3 the number of its parts, 4 what is left of it, 5 1 if it is spoilt,"
                + " otherwise 0, 6 the aid of all its parts, 7 the claimed amount of all its parts", () -> {
            AidRegister register = register("rules 100 9999 100;donor a 999999;donor b 999999;donor c 999999;declare a 0 9999;"
                    + "declare b 0 9999;declare c 0 9998;gift 9999 999999 999999 a;split 0 3 3 a 1 b 1 c 1;cash 0 1 0;gift 0 1 2 c;");
            row("the greatest", what -> register.gift(0, what), 9999, 999999, 999999, 1, 999999, 0, 999999, 0);
            register.claim(9999);
            row("claimed", what -> register.gift(0, what), 9999, 999999, 999999, 1, 999999, 0, 999999, 999999);
            row("of three", what -> register.gift(1, what), 0, 3, 3, 3, 3, 0, 3, 3);
            row("of nobody", what -> register.gift(2, what), 0, 1, 0, 0, 1, 0, 0, 0);
            row("spoilt", what -> register.gift(3, what), 0, 1, 2, 1, 1, 1, 0, 0);
            register.refund(0, 999999);
            row("nothing left", what -> register.gift(0, what), 9999, 999999, 999999, 1, 0, 0, 0, 999999);
        });
        holds(9, NO_GIFT, () -> {
            AidRegister one = register("cash 0 1 0;");
            AidRegister full = Fixtures.full();
            noIndex("of none", g -> new AidRegister().gift(g, 0), -1, 0, 1);
            noIndex("of one", g -> one.gift(g, 0), -1, 1, LEAST, GREATEST);
            noIndex("of sixty", g -> full.gift(g, 0), -1, 60, LEAST, GREATEST);
            same("the first of sixty", full.gift(0, 0), 0);
            same("the last of sixty", full.gift(59, 0), 5 * 365);
        });
        holds(9, NO_WHAT, () -> {
            AidRegister register = register("cash 0 1 0;");
            noArgument("gift", what -> register.gift(0, what), -1, 8, LEAST, GREATEST);
        });
        holds(9, "There are at most 60, numbered from 0 in the order in which they are told or made.", () -> {
            StringBuilder text = new StringBuilder("donor a 5;");
            for (int gift = 0; gift < 58; gift++) {
                text.append(gift % 2 == 0 ? "cash" : "gift").append(99 - gift).append(" 1 0").append(gift % 2 == 0 ? ";" : " a;");
            }
            AidRegister register = register(text.toString());
            same("the 59th", register.addGift(0, 41, 1, 0), 58);
            same("the 60th", register.addGift(-1, 40, 1, 0), 59);
            for (int gift = 0; gift < 60; gift++) {
                same("the day", register.gift(gift, 0), 99 - gift);
            }
            noState("a 61st", () -> register.addGift(0, 0, 1, 0));
        });
        holds(9, "A gift has a day, an amount and a benefit (what its givers got for it), and 0 to 3 parts, each of a donor.", () -> {
            AidRegister register = register("donor a 5;donor b 5;donor c 5;cash 7 9 1;gift 7 9 1 a;split 7 9 1 a 1 b 1;"
                    + "split 7 9 1 a 1 b 1 c 1;");
            row("the parts", gift -> register.gift(gift, 3), 0, 1, 2, 3);
            for (int gift = 0; gift < 4; gift++) {
                int number = gift;
                noIndex("part of gift " + gift, part -> register.part(number, part, 0), -1, gift, gift + 1, 3, 4);
                row("the donors", part -> register.part(number, part, 0), new long[][] {{}, {0}, {0, 1}, {0, 1, 2}}[gift]);
            }
            noState("a fourth part", () -> register.split(3, 1, 0, 1));
            noState("a third part", () -> register.split(2, 1, 2, 1));
        });
        holds(9, "A gift without parts is of nobody known.", () -> {
            AidRegister register = register("donor a 5;declare a 0 9999;cash 7 9 0;");
            same("made of nobody", register.addGift(-1, 7, 9, 0), 1);
            row("the parts", gift -> register.gift(gift, 3), 0, 0);
            same("gifts without parts", register.count(3), 2);
            same("gifts of the donor", register.donor(0, 4, -1), 0);
            row("the aid", gift -> register.gift(gift, 6), 0, 0);
        });
        holds(9, "The donors of a gift are different.", () -> {
            AidRegister register = register("donor a 5;donor b 5;gift 0 9 0 a;gift 0 9 0 b;");
            Check.noArgument("a and a", () -> register.split(0, 1, 0, 1));
            Check.noArgument("b and b", () -> register.split(1, 1, 1, 1));
            same("b and a", register.split(1, 1, 0, 1), 4);
            same("a told twice", Texts.load(new AidRegister(), "donor a 5;split 0 9 0 a 1 a 1;"), -1);
        });
        holds(9, "What is left of a part is its amount minus its refunds; what is left of a gift is its amount minus its refunds.", () -> {
            AidRegister register = register("donor a 5;donor b 5;split 0 9 0 a 1 b 2;cash 0 9 0;");
            int[] left = {8, 3, 2, 0};
            int[] ofA = {3, 3, 2, 0};
            int[] refunds = {1, 5, 1, 2};
            for (int i = 0; i < left.length; i++) {
                register.refund(0, refunds[i]);
                same("left of the gift", register.gift(0, 4), left[i]);
                same("left of a", register.part(0, 0, 2), ofA[i]);
                same("left of b", register.part(0, 1, 2), left[i] - ofA[i]);
                same("the amount stays", register.gift(0, 1) + register.part(0, 0, 1) + register.part(0, 1, 1), 18);
            }
            register.refund(1, 9);
            same("left of a gift without parts", register.gift(1, 4), 0);
        });
    }

    private static void spoilt() {
        holds(9, "A gift is spoilt if benefit * 100 is greater than the benefit limit (in percent) * its amount (refunds do not matter).", () -> {
            int[][] limitAmountBenefitSpoilt = {
                {25, 4, 1, 0}, {25, 4, 2, 1}, {25, 3, 0, 0}, {25, 3, 1, 1}, {25, 999999, 249999, 0}, {25, 999999, 250000, 1},
                {0, 999999, 0, 0}, {0, 999999, 1, 1}, {0, 1, 0, 0}, {100, 1, 1, 0}, {100, 1, 2, 1}, {100, 999999, 999999, 0},
                {100, 999998, 999999, 1}, {100, 1, 999999, 1}, {1, 999999, 9999, 0}, {1, 999999, 10000, 1}, {99, 100, 99, 0}, {99, 100, 100, 1}
            };
            for (int[] v : limitAmountBenefitSpoilt) {
                AidRegister register = register("rules 50 0 " + v[0] + ";donor a 1;gift 0 " + v[1] + " " + v[2] + " a;cash 0 " + v[1] + " " + v[2]
                        + ";");
                String name = java.util.Arrays.toString(v);
                row(name, gift -> register.gift(gift, 5), v[3], v[3]);
                same("count of " + name, register.count(8), 2 * v[3]);
                register.refund(0, v[1]);
                same("behind a refund " + name, register.gift(0, 5), v[3]);
            }
        });
    }

    // --- promise 10

    private static void parts() {
        holds(10, "`what`: 0 its donor, 1 its amount, 2 what is left of it, 3 its wish, 4 its aid, 5 its claimed amount", () -> {
            AidRegister register = register("rules 100 0 0;donor a 5;donor b 999999;declare b 0 0;declare a 0 0;split 0 999999 0 b 8 a 1;");
            row("b", what -> register.part(0, 0, what), 1, 888888, 888888, 888888, 888888, 0);
            row("a, above the tax limit", what -> register.part(0, 1, what), 0, 111111, 111111, 111111, 5, 0);
            register.claim(0);
            register.refund(0, 111112);
            row("b", what -> register.part(0, 0, what), 1, 888888, 888887, 888887, 888887, 888888);
            row("a", what -> register.part(0, 1, what), 0, 111111, 0, 0, 0, 5);
        });
        holds(10, "`part`: index of a part, from 0", () -> {
            AidRegister register = register(tenDonors() + "split 0 6 0 j 1 a 2 e 3;");
            row("the donors", part -> register.part(0, part, 0), 9, 0, 4);
            row("the amounts", part -> register.part(0, part, 1), 1, 2, 3);
        });
        holds(10, NO_PART, () -> {
            AidRegister register = register("donor a 5;donor b 5;cash 0 1 0;gift 0 1 0 a;split 0 3 0 a 1 b 1;");
            noIndex("no gift", gift -> register.part(gift, 0, 0), -1, 3, LEAST, GREATEST);
            noIndex("a gift of nobody", part -> register.part(0, part, 0), -1, 0, 1, 2, LEAST, GREATEST);
            noIndex("a gift of one", part -> register.part(1, part, 0), -1, 1, 2, LEAST, GREATEST);
            // 3 * the gift + the index would be 3 and 5 again.
            noIndex("a gift of two", part -> register.part(2, part, 0), -3, -1, 2, 3, LEAST, GREATEST);
            noIndex("of no register", gift -> new AidRegister().part(gift, 0, 0), -1, 0);
            AidRegister full = Fixtures.full();
            same("the last gift", full.part(59, 0, 0), 9);
            noIndex("behind the last gift", gift -> full.part(gift, 0, 0), 60, -1);
            // Three times this int wraps around to 0 and 1.
            noIndex("numbers that wrap around", gift -> full.part(gift, 0, 0), 1431655766, 715827883, -1431655765);
        });
        holds(10, NO_WHAT, () -> {
            AidRegister register = register("donor a 5;gift 0 1 0 a;");
            noArgument("part", what -> register.part(0, 0, what), -1, 6, LEAST, GREATEST);
        });
        holds(10, "A gift of one donor has one part, with all of the amount.", () -> {
            AidRegister register = register("donor a 5;gift 0 1 0 a;gift 0 999999 0 a;");
            register.addGift(0, 0, 7, 0);
            row("the parts", gift -> register.gift(gift, 3), 1, 1, 1);
            row("their amounts", gift -> register.part(gift, 0, 1), 1, 999999, 7);
        });
        holds(10, "Each part has a claimed amount, 0 at first.", () -> {
            AidRegister register = register("rules 100 9999 0;donor a 999;donor b 999;declare a 0 9999;declare b 0 9999;gift 0 5 0 a;");
            register.claim(0);
            same("of a part that was claimed", register.part(0, 0, 5), 5);
            register.addGift(0, 0, 8, 0);
            same("of a new gift", register.part(1, 0, 5), 0);
            register.split(1, 1, 1, 1);
            row("of the parts of a split", part -> register.part(1, part, 5), 0, 0);
            register.undo();
            register.claim(0);
            register.undo();
            register.undo();
            register.addGift(1, 0, 8, 0);
            same("of a gift in place of an undone one", register.part(1, 0, 5), 0);
        });
    }

    private static void shares() {
        holds(10, "Parts have weights; the amount of a part is amount * weight / the sum of the weights; the pence that are left over then go to"
                + " the parts in their order, one each.", () -> {
            int[][] amountWeightsShares = {
                {1, 1, 1, 1, 1, 0, 0}, {2, 1, 1, 1, 1, 1, 0}, {3, 1, 1, 1, 1, 1, 1}, {4, 1, 1, 1, 2, 1, 1}, {5, 1, 1, 1, 2, 2, 1},
                {1, 1, 9, 9, 1, 0, 0}, {2, 1, 9, 9, 1, 1, 0}, {27, 9, 9, 9, 9, 9, 9}, {18, 1, 8, 9, 1, 8, 9}, {17, 1, 8, 9, 1, 8, 8},
                {999999, 9, 9, 9, 333333, 333333, 333333}, {999999, 1, 1, 9, 90909, 90909, 818181}, {999998, 9, 1, 1, 818181, 90909, 90908}
            };
            for (int[] v : amountWeightsShares) {
                AidRegister register = register("donor a 1;donor b 1;donor c 1;split 0 " + v[0] + " 0 a " + v[1] + " b " + v[2] + " c " + v[3]
                        + ";");
                row(java.util.Arrays.toString(v), part -> register.part(0, part, 1), v[4], v[5], v[6]);
            }
            AidRegister two = register("donor a 1;donor b 1;split 0 1 0 b 1 a 9;split 0 999999 0 b 9 a 1;split 0 3 0 a 1 b 1;");
            row("the first of two", gift -> two.part(gift, 0, 1), 1, 900000, 2);
            row("the second of two", gift -> two.part(gift, 1, 1), 0, 99999, 1);
        });
        holds(10, "Divisions are rounded down.", () -> {
            AidRegister register = register("rules 99 0 99;donor a 999999;declare a 0 9999;gift 0 1 0 a;gift 0 2 0 a;gift 0 100 0 a;"
                    + "gift 0 101 0 a;gift 365 999999 0 a;");
            row("the wishes", gift -> register.part(gift, 0, 3), 0, 1, 99, 99, 989999);
            row("benefitRoom", register::benefitRoom, 0, 1, 99, 99, 989999);
        });
    }

    private static void wishes() {
        holds(10, "The wish of a part is what is left of it * rate / 100, if the gift is not spoilt and a declaration of its donor is in force on"
                + " the day of the gift; otherwise 0.", () -> {
            AidRegister register = register("rules 50 0 25;donor a 999999;donor b 9;declare a 10 20;declare b 0 9999;gift 10 9 0 a;gift 20 9 0 a;"
                    + "gift 9 9 0 a;gift 21 9 0 a;gift 15 8 2 a;gift 15 8 3 a;gift 15 1 0 a;gift 15 2 0 a;");
            row("the wishes", gift -> register.part(gift, 0, 3), 4, 4, 0, 0, 4, 0, 0, 1);
            register.refund(0, 1);
            register.refund(1, 8);
            row("behind refunds", gift -> register.part(gift, 0, 3), 4, 0);
            register.setTaxLimit(0, 0);
            same("the tax limit does not matter", register.part(0, 0, 3), 4);
        });
        holds(10, "(The rate is a percentage.)", () -> {
            AidRegister register = register("donor a 999999;declare a 0 0;gift 0 999999 0 a;");
            int[][] rateWish = {{0, 0}, {1, 9999}, {99, 989999}, {100, 999999}};
            for (int[] v : rateWish) {
                register.setRate(v[0]);
                same("the wish at " + v[0], register.part(0, 0, 3), v[1]);
            }
        });
    }

    private static void aid() {
        holds(10, "The aid of a part is found for each donor and each year: the parts of this donor in gifts of this year are gone through by the"
                + " days of their gifts, on a tie by the numbers of the gifts; the aid of each one is its wish, but at most the tax limit minus"
                + " the aid of those before it.", () -> {
            String text = ";donor b 4;declare a 0 9999;declare b 0 9999;gift 364 4 0 a;gift 363 3 0 a;split 363 4 0 b 2 a 2;gift 365 9 0 a;"
                    + "gift 0 2 0 a;gift 363 5 0 b;";
            int[] limits = {0, 1, 2, 3, 4, 5, 6, 7, 8, 10, 11, 12};
            for (int limit : limits) {
                AidRegister register = register("rules 100 0 0;donor a " + limit + text);
                int rest = limit;
                int[] order = {4, 1, 2, 0};
                int[] wishes = {2, 3, 2, 4};
                for (int i = 0; i < order.length; i++) {
                    int due = Math.min(rest, wishes[i]);
                    same("the aid of gift " + order[i] + " below " + limit, register.part(order[i], order[i] == 2 ? 1 : 0, 4), due);
                    rest -= due;
                }
                same("the next year", register.part(3, 0, 4), Math.min(limit, 9));
                same("b, its first", register.part(2, 0, 4), 2);
                same("b, its second", register.part(5, 0, 4), 2);
            }
        });
        holds(10, "A donor has a name and a tax limit: the most aid that gifts of one year can have.", () -> {
            AidRegister register = register("rules 100 0 0;donor a 10;declare a 0 9999;gift 0 5 0 a;gift 364 5 0 a;gift 365 11 0 a;"
                    + "gift 9999 10 0 a;");
            row("the aid", gift -> register.part(gift, 0, 4), 5, 5, 10, 10);
            register.setTaxLimit(0, 9);
            row("a penny less", gift -> register.part(gift, 0, 4), 5, 4, 9, 9);
            register.setTaxLimit(0, 0);
            row("none", gift -> register.part(gift, 0, 4), 0, 0, 0, 0);
            register.setTaxLimit(0, 999999);
            row("the greatest", gift -> register.part(gift, 0, 4), 5, 5, 11, 10);
        });
    }

    // --- promise 11

    private static void reasons() {
        holds(11, "Returns 0 its aid is what is left of it * rate / 100 and that is not 0; otherwise the first of these that applies: 1 nothing is"
                + " left of it, 2 the gift is spoilt, 3 no declaration of the donor is in force on the day, 4 its wish is 0 for another reason,"
                + " 5 the tax limit.", () -> {
            AidRegister register = register("rules 50 0 25;donor a 4;donor b 4;declare a 0 364;declare b 0 9;gift 10 4 0 a;gift 10 4 0 a;"
                    + "gift 10 2 0 a;"
                    + "gift 10 1 0 a;gift 365 9 0 a;gift 365 9 9 a;split 10 1 1 b 1 a 1;gift 0 1 0 b;gift 365 1 0 a;split 9 5 0 b 3 a 2;"
                            + "gift 11 9 9 a;");
            // Gift 9 is earlier: it leaves 3 of the limit of a, then gift 0 takes 2, gift 1 the last one.
            row("the first parts", gift -> register.reason(gift, 0), 0, 5, 5, 4, 3, 2, 2, 4, 3, 0, 2);
            same("a part of nothing of a spoilt gift", register.reason(6, 1), 1);
            same("the second part", register.reason(9, 1), 0);
            register.setRate(0);
            row("the rate 0", gift -> register.reason(gift, 0), 4, 4, 4, 4, 3, 2, 2, 4, 3, 4, 2);
            register.setRate(100);
            register.setTaxLimit(0, 0);
            row("the limit 0", gift -> register.reason(gift, 0), 5, 5, 5, 5, 3, 2, 2, 0, 3, 0, 2);
            register.refund(10, 9);
            register.refund(4, 9);
            register.refund(0, 3);
            row("behind refunds", what -> register.reason(new int[] {10, 4, 0}[what], 0), 1, 1, 5);
        });
        holds(11, "Tells why a part has no aid, or less than it could.", () -> {
            AidRegister register = register("rules 50 0 25;donor a 4;declare a 0 364;gift 10 8 0 a;gift 10 1 0 a;gift 11 2 0 a;");
            row("all of it, nothing, and none left", gift -> register.reason(gift, 0), 0, 4, 5);
            register.setTaxLimit(0, 5);
            row("a penny more", gift -> register.reason(gift, 0), 0, 4, 0);
            register.setTaxLimit(0, 3);
            row("a penny less", gift -> register.reason(gift, 0), 5, 4, 5);
        });
        holds(11, "`part`: index of a part, from 0", () -> {
            AidRegister register = register("rules 50 0 25;donor a 4;donor b 4;donor c 0;declare a 0 0;declare c 0 0;split 0 9 0 a 1 b 1 c 1;");
            row("the parts", part -> register.reason(0, part), 0, 3, 5);
        });
        holds(11, NO_PART, () -> {
            AidRegister register = register("donor a 5;donor b 5;cash 0 1 0;gift 0 1 0 a;split 0 3 0 a 1 b 1;");
            noIndex("no gift", gift -> register.reason(gift, 0), -1, 3, 1431655766, LEAST, GREATEST);
            noIndex("a gift of nobody", part -> register.reason(0, part), -1, 0, 1, 2, LEAST, GREATEST);
            noIndex("a gift of one", part -> register.reason(1, part), -1, 1, 2, LEAST, GREATEST);
            noIndex("a gift of two", part -> register.reason(2, part), -1, 2, 3, LEAST, GREATEST);
            noIndex("of no register", gift -> new AidRegister().reason(gift, 0), -1, 0);
            AidRegister full = Fixtures.full();
            same("the last gift", full.reason(59, 0), 0);
            noIndex("behind the last gift", gift -> full.reason(gift, 0), 60);
        });
    }

    // --- promise 12

    private static void sumsOfDonor() {
        holds(12, "`what`: 0 what is left of them, 1 their wishes, 2 their aid, 3 their claimed amounts, 4 the number of gifts", () -> {
            AidRegister full = Fixtures.full();
            row("of a full register", what -> full.donor(9, what, -1), 6 * 999999, 6 * 999999, 6 * 999999, 6 * 999999, 6);
            AidRegister register = register("rules 50 0 25;donor a 0;donor b 7;declare b 0 9999;split 0 30 0 a 1 b 2;gift 1 5 0 b;cash 0 1 0;"
                    + "gift 0 9 0 a;");
            register.claim(0);
            register.refund(0, 2);
            row("a", what -> register.donor(0, what, -1), 19, 0, 0, 0, 2);
            row("b", what -> register.donor(1, what, -1), 23, 11, 7, 7, 2);
            AidRegister one = register("donor a 5;");
            row("of no gifts", what -> one.donor(0, what, -1), 0, 0, 0, 0, 0);
        });
        holds(12, "`year`: a year, 0 to 27; -1 for all years", () -> {
            AidRegister register = register("donor a 5;gift 0 1 0 a;gift 364 2 0 a;gift 365 4 0 a;gift 729 8 0 a;gift 9854 16 0 a;gift 9855 32 0 a;"
                    + "gift 9999 64 0 a;");
            same("year 0", register.donor(0, 0, 0), 3);
            same("year 1", register.donor(0, 0, 1), 12);
            same("year 2", register.donor(0, 0, 2), 0);
            same("year 26", register.donor(0, 0, 26), 16);
            same("year 27", register.donor(0, 0, 27), 96);
            same("all years", register.donor(0, 0, -1), 127);
        });
        needsDonor(12, "donor", (register, donor) -> register.donor(donor, 0, 0));
        holds(12, "Throws `IllegalArgumentException` if what or year is out of range", () -> {
            AidRegister register = register("donor a 5;");
            noArgument("what", what -> register.donor(0, what, 0), -1, 5, LEAST, GREATEST);
            noArgument("year", year -> register.donor(0, 4, year), -2, 28, LEAST, GREATEST);
            noArgument("what for all years", what -> register.donor(0, what, -1), -1, 5);
        });
    }

    private static void days() {
        holds(12, "Days are numbered from 0 to 9999; the year of a day is day / 365.", () -> {
            AidRegister register = register("donor a 5;");
            int[] days = {0, 364, 365, 729, 730, 9489, 9490, 9854, 9855, 9999};
            int[] years = {0, 0, 1, 1, 2, 25, 26, 26, 27, 27};
            int[] giftsOfYear = {1, 2, 1, 2, 1, 1, 1, 2, 1, 2};
            for (int gift = 0; gift < days.length; gift++) {
                register.addGift(0, days[gift], 1, 0);
                same("gifts of the year of day " + days[gift], register.donor(0, 4, years[gift]), giftsOfYear[gift]);
            }
            noArgument("a day of no gift", day -> register.addGift(0, day, 1, 0), -1, 10000);
        });
    }

    // --- promises 13 to 15

    private static void taxLimits() {
        holds(13, "Returns the tax limit of a donor.", () -> {
            AidRegister register = register("donor a 0;donor b 999999;donor c 5;");
            row("taxLimit", register::taxLimit, 0, 999999, 5);
            register.setTaxLimit(0, 999999);
            register.setTaxLimit(1, 0);
            row("taxLimit", register::taxLimit, 999999, 0, 5);
        });
        holds(13, "There are at most 10, numbered from 0 in the order in which they are told.", () -> {
            AidRegister register = register(tenDonors());
            row("taxLimit", register::taxLimit, 1, 2, 3, 4, 5, 6, 7, 8, 9, 10);
            AidRegister two = register("donor j 4;donor a 3;");
            row("not by their names", two::taxLimit, 4, 3);
            same("an 11th", Texts.load(two, tenDonors() + "donor k 1;"), -1);
        });
        needsDonor(13, "taxLimit", AidRegister::taxLimit);
    }

    private static void isDeclared() {
        holds(14, "Tells whether a declaration of a donor is in force on a day.", () -> {
            AidRegister register = register("donor a 1;donor b 1;declare b 5 5;declare a 5 5;declare a 8 9;declare a 7 7;");
            row("the days of a", day -> register.isDeclared(0, day) ? 1 : 0, 0, 0, 0, 0, 0, 1, 0, 1, 1, 1, 0);
            register.revoke(1, 5);
            register.revoke(2, 9);
            row("the days of a", day -> register.isDeclared(0, day) ? 1 : 0, 0, 0, 0, 0, 0, 0, 0, 1, 1, 0, 0);
            row("the days of b", day -> register.isDeclared(1, day) ? 1 : 0, 0, 0, 0, 0, 0, 1, 0, 0, 0, 0, 0);
        });
        holds(14, "`day`: any int", () -> {
            AidRegister register = register("donor a 1;donor b 1;declare a 0 9999;declare b 0 5;");
            register.revoke(1, 0);
            for (int day : new int[] {-1, -2, 10000, LEAST, GREATEST, -9999, -5}) {
                no("a on day " + day, register.isDeclared(0, day));
                no("b on day " + day, register.isDeclared(1, day));
            }
            no("b on day 0", register.isDeclared(1, 0));
        });
        holds(14, "Returns true if one is.", () -> {
            AidRegister register = register("donor a 1;donor b 1;declare a 0 9999;declare b 9999 9999;declare b 0 0;");
            yes("a on day 0", register.isDeclared(0, 0));
            yes("a on day 9999", register.isDeclared(0, 9999));
            yes("b on day 0", register.isDeclared(1, 0));
            yes("b on day 9999", register.isDeclared(1, 9999));
            no("b on day 1", register.isDeclared(1, 1));
            no("b on day 9998", register.isDeclared(1, 9998));
        });
        holds(14, "There are at most 30 in all, numbered from 0 in the order in which they are told or made.", () -> {
            AidRegister register = register("donor a 1;donor b 1;" + "declare b 5 5;".repeat(29));
            register.declare(0, 9999, 9999);
            yes("a by the 30th", register.isDeclared(0, 9999));
            no("a by those of b", register.isDeclared(0, 5));
            row("five of b are revoked", declaration -> register.revoke(declaration, 5), 1, 1, 1, 1, 1);
            yes("b by the others", register.isDeclared(1, 5));
            for (int declaration = 5; declaration < 29; declaration++) {
                register.revoke(declaration, 5);
            }
            no("b by none", register.isDeclared(1, 5));
        });
        needsDonor(14, "isDeclared", (register, donor) -> register.isDeclared(donor, 0));
    }

    private static void coverage() {
        holds(15, "Returns the number of days, within a span, on which a declaration of a donor is in force.", () -> {
            AidRegister register = register("donor a 1;donor b 1;declare a 10 19;declare a 15 24;declare a 26 26;declare b 0 9999;declare a 10 12;");
            int[][] firstLastDays = {{0, 9999, 16}, {0, 9, 0}, {0, 10, 1}, {10, 10, 1}, {24, 24, 1}, {24, 25, 1}, {24, 26, 2}, {25, 25, 0}, {26,
                    9999, 1},
                {27, 9999, 0}, {15, 19, 5}, {11, 23, 13}};
            for (int[] v : firstLastDays) {
                same("coverage from " + v[0] + " to " + v[1], register.coverage(0, v[0], v[1]), v[2]);
            }
            same("all days of b", register.coverage(1, 0, 9999), 10000);
            register.revoke(3, 0);
            same("no days of b", register.coverage(1, 0, 9999), 0);
        });
        holds(15, "There are at most 30 in all, numbered from 0 in the order in which they are told or made.", () -> {
            StringBuilder text = new StringBuilder("donor a 1;");
            for (int declaration = 29; declaration >= 0; declaration--) {
                text.append("declare a ").append(declaration * 9).append(' ').append(declaration * 9 + 1).append(';');
            }
            AidRegister register = register(text.toString());
            same("thirty pairs of days", register.coverage(0, 0, 9999), 60);
            same("all but two days", register.coverage(0, 1, 29 * 9), 58);
            same("of thirty alike", Fixtures.full().coverage(9, 0, 9999), 10000);
        });
        holds(15, "`first`: first day, 0 to 9999", () -> {
            AidRegister register = register("donor a 1;declare a 0 9999;");
            same("from 0", register.coverage(0, 0, 9999), 10000);
            same("from 9999", register.coverage(0, 9999, 9999), 1);
            noArgument("first", first -> register.coverage(0, first, 9999), -1, 10000, LEAST, GREATEST);
        });
        holds(15, "`last`: last day, first to 9999", () -> {
            AidRegister register = register("donor a 1;declare a 0 9999;");
            same("to 0", register.coverage(0, 0, 0), 1);
            same("to the first", register.coverage(0, 5, 5), 1);
            noArgument("last", last -> register.coverage(0, 5, last), 4, -1, 10000, LEAST, GREATEST);
        });
        needsDonor(15, "coverage", (register, donor) -> register.coverage(donor, 0, 9999));
        holds(15, "Throws `IllegalArgumentException` if first or last is out of range", () -> {
            AidRegister register = register("donor a 1;");
            noArgument("both below", day -> register.coverage(0, day, day), -1, LEAST);
            noArgument("both above", day -> register.coverage(0, day, day), 10000, GREATEST);
            same("neither", register.coverage(0, 0, 9999), 0);
        });
    }

    // --- promises 16 and 17

    private static void gap() {
        holds(16, "Returns an end of a gap of a donor: of a longest row of days, from 0 to 9999, one after the other, on which no declaration is in"
                + " force.", () -> {
            AidRegister register = register("donor a 1;donor b 1;donor c 1;declare a 1 4;declare a 6 9998;declare b 0 4;declare b 5 9998;"
                    + "declare c 5 9999;"
                    + "declare c 1 1;declare c 3 3;");
            row("of a, first days", index -> register.gap(0, index, false), 0, 5, 9999, -1);
            row("of a, last days", index -> register.gap(0, index, true), 0, 5, 9999, -1);
            row("of b, first days", index -> register.gap(1, index, false), 9999, -1);
            row("of c, first days", index -> register.gap(2, index, false), 0, 2, 4, -1);
            row("of c, last days", index -> register.gap(2, index, true), 0, 2, 4, -1);
        });
        holds(16, "`index`: index of the gap, from 0, by days", () -> {
            StringBuilder text = new StringBuilder("donor a 1;");
            for (int declaration = 29; declaration >= 0; declaration--) {
                text.append("declare a ").append(declaration * 3 + 1).append(' ').append(declaration * 3 + 1).append(';');
            }
            AidRegister register = register(text.toString());
            for (int index = 0; index <= 30; index++) {
                same("the first day of gap " + index, register.gap(0, index, false), index == 0 ? 0 : index * 3 - 1);
                same("the last day of gap " + index, register.gap(0, index, true), index == 30 ? 9999 : index * 3);
            }
            same("behind the 31 gaps of 30 declarations", register.gap(0, 31, false), -1);
        });
        holds(16, "`end`: true for its last day, false for its first one", () -> {
            AidRegister register = register("donor a 1;donor b 1;declare b 5 9;");
            same("the first day of all", register.gap(0, 0, false), 0);
            same("the last day of all", register.gap(0, 0, true), 9999);
            row("the first days", index -> register.gap(1, index, false), 0, 10);
            row("the last days", index -> register.gap(1, index, true), 4, 9999);
        });
        holds(16, "Returns the day; -1 if there is no such gap.", () -> {
            AidRegister register = register("donor a 1;donor b 1;declare a 0 9999;");
            for (int index : new int[] {0, 1, -1, LEAST, GREATEST}) {
                same("without gaps, " + index, register.gap(0, index, false), -1);
                same("without gaps, " + index, register.gap(0, index, true), -1);
            }
            for (int index : new int[] {1, 2, -1, LEAST, GREATEST}) {
                same("with one gap, " + index, register.gap(1, index, false), -1);
                same("with one gap, " + index, register.gap(1, index, true), -1);
            }
        });
        needsDonor(16, "gap", (register, donor) -> register.gap(donor, 0, true));
    }

    private static void needless() {
        holds(17, "Returns the number of declarations of a donor that could be left out: without any one of them, alone, the same days would be"
                + " declared.", () -> {
            String[][] declarationsAndDue = {
                {"", "0"}, {"0 9999", "0"}, {"0 9999,0 9999", "2"}, {"0 9999,0 0", "1"}, {"0 9999,9999 9999", "1"}, {"0 5,6 9", "0"}, {"0 5,5 9",
                        "0"},
                {"0 5,5 9,5 5", "1"}, {"0 5,6 9,5 6", "1"}, {"0 5,7 9,5 6", "0"}, {"0 5,6 9,0 9", "3"}, {"0 4,6 9,0 9", "2"}, {"1 9,0 9", "1"},
                        {"0 8,0 9", "1"},
                {"3 3,3 3,3 3", "3"}
            };
            for (String[] v : declarationsAndDue) {
                StringBuilder text = new StringBuilder("donor a 1;donor b 1;declare b 0 9999;");
                for (String days : v[0].split(",")) {
                    text.append(days.isEmpty() ? "" : "declare a " + days + ";");
                }
                AidRegister register = register(text.toString());
                same("needless of " + v[0], register.needless(0), Integer.parseInt(v[1]));
                same("needless of b", register.needless(1), 0);
            }
            AidRegister register = register("donor a 1;declare a 5 9;");
            register.revoke(0, 6);
            same("in force on one day", register.needless(0), 0);
            register.revoke(0, 5);
            same("in force on no day", register.needless(0), 1);
            AidRegister full = Fixtures.full();
            row("of a full register", full::needless, 3, 3, 3, 3, 3, 3, 3, 3, 3, 3);
        });
        needsDonor(17, "needless", AidRegister::needless);
    }
}
