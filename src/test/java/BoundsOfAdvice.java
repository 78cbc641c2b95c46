/** Promises 34 to 42, sentence by sentence: what declarations and splits bring. */
final class BoundsOfAdvice extends Bounds {
    private static final String NO_GIFT = "Throws `IndexOutOfBoundsException` if there is no such gift";

    private BoundsOfAdvice() {
    }

    static void all() {
        useOf();
        benefitRoom();
        topDonor();
        bestYear();
        longestSpan();
        gainOf();
        bestAsked();
        neededSpan();
        shortestSpans();
        gainOfSplit();
    }

    // --- promises 34 and 35

    private static void useOf() {
        holds(34, "Returns by how much the aid of all parts would be less without a declaration.", () -> {
            AidRegister register = register("rules 100 0 0;donor a 99;donor b 99;declare a 0 0;declare a 9999 9999;declare a 5 9;declare a 9 20;"
                    + "declare b 0 9999;"
                    + "declare a 7 7;gift 0 1 0 a;gift 9999 2 0 a;gift 5 4 0 a;gift 9 8 0 a;gift 20 16 0 a;gift 21 9 0 a;split 7 96 0 a 1 b 2;");
            row("useOf", register::useOf, 1, 2, 4, 16, 64, 0);
            register.revoke(3, 9);
            row("without an overlap", register::useOf, 1, 2, 12, 0, 64, 0);
            register.setTaxLimit(0, 10);
            // In year 0 a has wishes of 1, 4, 32 and 8, in the order of the days, below a limit of 10.
            row("below a tax limit", register::useOf, 0, 2, 0, 0, 64, 0);
            register.setTaxLimit(0, 0);
            row("below the limit 0", register::useOf, 0, 0, 0, 0, 64, 0);
            AidRegister one = register("rules 100 0 0;donor a 5;declare a 0 9;gift 0 9 0 a;");
            same("all of the limit", one.useOf(0), 5);
            same("the register is as it was", one.totalAid(), 5);
            one.revoke(0, 0);
            same("in force on no day", one.useOf(0), 0);
            AidRegister full = register("rules 100 0 0;donor a 999999;declare a 0 9999;gift 0 999999 0 a;gift 365 999999 0 a;gift 9999 999999 0 a;");
            same("the greatest of three years", full.useOf(0), 2999997);
        });
        holds(34, "Throws `IndexOutOfBoundsException` if there is no such declaration", () -> {
            AidRegister one = register("donor a 5;declare a 0 0;");
            AidRegister full = Fixtures.full();
            noIndex("of none", d -> new AidRegister().useOf(d), -1, 0);
            noIndex("of one", one::useOf, -1, 1, LEAST, GREATEST);
            noIndex("of thirty", full::useOf, -1, 30, LEAST, GREATEST);
            same("the last of thirty", full.useOf(29), 0);
        });
    }

    private static void benefitRoom() {
        holds(35, "Returns the greatest benefit with which a gift would not be spoilt.", () -> {
            for (int limit : new int[] {0, 1, 25, 33, 99, 100}) {
                for (int amount : new int[] {1, 2, 3, 4, 99, 100, 101, 999999}) {
                    AidRegister register = register("rules 0 0 " + limit + ";cash 0 " + amount + " 999999;");
                    int room = register.benefitRoom(0);
                    if (room < 999999) {
                        register.addGift(-1, 0, amount, room);
                        same("the greatest, " + limit + " " + amount, register.gift(1, 5), 0);
                        register.addGift(-1, 0, amount, room + 1);
                        same("a penny more, " + limit + " " + amount, register.gift(2, 5), 1);
                    }
                }
            }
        });
        holds(35, "Returns the benefit: benefit limit * amount / 100.", () -> {
            int[][] limitAmountDue = {{0, 999999, 0}, {100, 999999, 999999}, {99, 999999, 989999}, {100, 1, 1}, {99, 1, 0}, {25, 4, 1}, {25, 3, 0},
                    {1, 100, 1}, {1, 99, 0}};
            for (int[] v : limitAmountDue) {
                AidRegister register = register("rules 0 0 " + v[0] + ";cash 0 " + v[1] + " 0;");
                same(java.util.Arrays.toString(v), register.benefitRoom(0), v[2]);
                register.refund(0, v[1]);
                same("refunds do not matter", register.benefitRoom(0), v[2]);
            }
        });
        holds(35, NO_GIFT, () -> {
            AidRegister one = register("cash 0 1 0;");
            AidRegister sixty = register("cash 0 4 0;".repeat(60));
            noIndex("of none", gift -> new AidRegister().benefitRoom(gift), -1, 0);
            noIndex("of one", one::benefitRoom, -1, 1, LEAST, GREATEST);
            noIndex("of sixty", sixty::benefitRoom, -1, 60, LEAST, GREATEST);
            same("the last", sixty.benefitRoom(59), 1);
        });
    }

    // --- promises 36 to 38

    private static void topDonor() {
        String text = "rules 100 0 0;donor a 9;donor b 9;donor c 9;declare b 0 9999;declare c 0 9999;";
        holds(36, "Finds the donor with the greatest sum over all years (see donor).", () -> {
            AidRegister register = register(text + "gift 0 5 0 a;gift 365 6 0 a;gift 0 10 0 b;gift 0 1 0 c;gift 365 1 0 c;gift 730 1 0 c;");
            row("topDonor", register::topDonor, 0, 1, 1, 0, 2);
            register.claim(0);
            same("by claimed amounts", register.topDonor(3), 1);
            register.addGift(2, 9999, 9, 0);
            row("c has a penny more", register::topDonor, 2, 2, 2, 1, 2);
            AidRegister last = register(tenDonors() + "gift 0 1 0 j;");
            same("the last of ten", last.topDonor(0), 9);
        });
        holds(36, "`what`: 0 to 4 as for donor", () -> {
            AidRegister register = register(text + "gift 0 5 0 c;gift 0 9 0 a;gift 0 1 0 b;gift 0 1 0 b;");
            row("topDonor", register::topDonor, 0, 2, 2, 0, 1);
            noArgument("topDonor", register::topDonor, -1, 5, LEAST, GREATEST);
            AidRegister full = Fixtures.full();
            row("of a full register", full::topDonor, 0, 0, 0, 0, 0);
        });
        holds(36, "Returns number of the donor, the smallest one on a tie; -1 without donors.", () -> {
            AidRegister empty = new AidRegister();
            row("without donors", empty::topDonor, -1, -1, -1, -1, -1);
            AidRegister cash = register("cash 0 1 0;");
            row("with gifts of nobody", cash::topDonor, -1, -1, -1, -1, -1);
            AidRegister ten = register(tenDonors());
            row("ten without gifts", ten::topDonor, 0, 0, 0, 0, 0);
            AidRegister tie = register(text + "gift 0 5 0 c;gift 0 5 0 b;");
            row("a tie of b and c", tie::topDonor, 1, 1, 1, 0, 1);
        });
        holds(36, "Throws `IllegalArgumentException` if what is out of range", () -> {
            noArgument("without donors", what -> new AidRegister().topDonor(what), -1, 5);
            AidRegister register = register(text);
            noArgument("with donors", register::topDonor, -1, 5);
        });
    }

    private static void bestYear() {
        holds(37, "Returns the year with the most aid of all parts.", () -> {
            AidRegister register = register("rules 100 0 0;donor a 9;donor b 9;declare a 0 9999;declare b 0 9999;gift 364 4 0 a;gift 365 6 0 a;"
                    + "gift 0 3 0 b;");
            same("4 + 3", register.bestYear(), 0);
            register.addGift(1, 729, 2, 0);
            same("6 + 2", register.bestYear(), 1);
            register.addGift(0, 9999, 99, 0);
            same("9 of 99", register.bestYear(), 27);
            register.addGift(0, 1, 5, 0);
            same("4 + 3 + 5", register.bestYear(), 0);
        });
        holds(37, "Returns the year, the earliest one on a tie; -1 if there is no aid.", () -> {
            AidRegister register = register("rules 100 0 0;donor a 9;declare a 0 9999;gift 9999 5 0 a;gift 730 5 0 a;gift 364 1 0 a;gift 365 2 0 a;"
                    + "gift 729 3 0 a;");
            same("a tie of 1, 2 and 27", register.bestYear(), 1);
            register.refund(4, 1);
            same("a tie of 2 and 27", register.bestYear(), 2);
            register.refund(1, 1);
            same("27", register.bestYear(), 27);
            register.setRate(0);
            same("no aid", register.bestYear(), -1);
            same("no gifts", new AidRegister().bestYear(), -1);
            AidRegister first = register("rules 100 0 0;donor a 9;declare a 0 0;gift 0 1 0 a;");
            same("a penny in year 0", first.bestYear(), 0);
        });
    }

    private static void longestSpan() {
        holds(38, "Returns the greatest number of days, one after the other, on which a declaration of a donor is in force.", () -> {
            String[][] declarationsAndDue = {{"", "0"}, {"0 9999", "10000"}, {"9999 9999", "1"}, {"0 0", "1"}, {"0 4,6 9", "5"}, {"0 3,5 9", "5"},
                    {"0 4,5 9", "10"},
                {"5 9,0 4", "10"}, {"5 9,0 5", "10"}, {"0 9,3 5", "10"}, {"20 29,10 19,0 9", "30"}, {"1 2,4 9,3 3,11 15", "9"},
                        {"1 5,9990 9999,7 8", "10"}};
            for (String[] v : declarationsAndDue) {
                StringBuilder text = new StringBuilder("donor a 1;donor b 1;declare b 5 10;");
                for (String days : v[0].split(",")) {
                    text.append(days.isEmpty() ? "" : "declare a " + days + ";");
                }
                AidRegister register = register(text.toString());
                same("longestSpan of " + v[0], register.longestSpan(0), Integer.parseInt(v[1]));
                same("longestSpan of b", register.longestSpan(1), 6);
            }
            AidRegister register = register("donor a 1;declare a 0 9999;declare a 5 7;");
            register.revoke(0, 2);
            same("cut short", register.longestSpan(0), 3);
            register.revoke(0, 0);
            register.revoke(1, 1);
            same("in force on no day", register.longestSpan(0), 0);
            StringBuilder chain = new StringBuilder("donor a 1;");
            for (int declaration = 29; declaration >= 0; declaration--) {
                chain.append("declare a ").append(declaration * 2).append(' ').append(declaration * 2 + 1).append(';');
            }
            same("a chain of thirty", register(chain.toString()).longestSpan(0), 60);
        });
        needsDonor(38, "longestSpan", AidRegister::longestSpan);
    }

    // --- promises 39 and 40

    private static void gainOf() {
        holds(39, "Returns by how much the aid of all parts would grow with one more declaration.", () -> {
            AidRegister register = register("rules 100 0 0;donor a 50;donor b 99;declare a 10 19;gift 9 1 0 a;gift 10 2 0 a;gift 19 4 0 a;"
                    + "gift 20 8 0 a;gift 20 9 9 a;"
                    + "split 30 48 0 b 2 a 1;");
            int[][] firstLastDue = {{10, 19, 0}, {9, 9, 1}, {9, 19, 1}, {10, 20, 8}, {0, 8, 0}, {9, 20, 9}, {0, 29, 9}, {30, 30, 16}, {0, 30, 25},
                    {0, 9999, 25}, {31, 9999, 0}};
            for (int[] v : firstLastDue) {
                same("from " + v[0] + " to " + v[1], register.gainOf(0, v[0], v[1]), v[2]);
            }
            same("of b", register.gainOf(1, 0, 9999), 32);
            AidRegister three = register("rules 100 0 0;donor a 99;donor b 9;donor c 9;donor d 9;split 0 9 0 b 1 c 1 d 1;gift 5 8 0 a;");
            same("the gift of others before it", three.gainOf(0, 0, 4), 0);
            same("its own", three.gainOf(0, 5, 5), 8);
            register.setTaxLimit(0, 7);
            same("below the limit", register.gainOf(0, 0, 9999), 1);
            register.setTaxLimit(0, 6);
            same("at the limit", register.gainOf(0, 0, 9999), 0);
            same("the register is as it was", register.totalAid() + register.count(1), 7);
            AidRegister full = Fixtures.full();
            for (int declaration = 0; declaration < 30; declaration++) {
                full.revoke(declaration, 0);
            }
            same("with thirty declarations", full.gainOf(9, 0, 9999), 6 * 999999);
            same("of one year", full.gainOf(9, 365, 729), 999999);
        });
        holds(39, "`first`: first day, 0 to 9999", () -> {
            AidRegister register = register("rules 100 0 0;donor a 9;gift 0 1 0 a;gift 9999 2 0 a;");
            same("from 0", register.gainOf(0, 0, 9999), 3);
            same("from 1", register.gainOf(0, 1, 9999), 2);
            same("from 9999", register.gainOf(0, 9999, 9999), 2);
            noArgument("first", first -> register.gainOf(0, first, 9999), -1, 10000, LEAST, GREATEST);
        });
        holds(39, "`last`: last day, first to 9999", () -> {
            AidRegister register = register("rules 100 0 0;donor a 9;gift 0 1 0 a;gift 9999 2 0 a;");
            same("to 0", register.gainOf(0, 0, 0), 1);
            same("to 9998", register.gainOf(0, 0, 9998), 1);
            same("to 9999", register.gainOf(0, 1, 9999), 2);
            noArgument("last", last -> register.gainOf(0, 5, last), 4, 0, -1, 10000, LEAST, GREATEST);
        });
        needsDonor(39, "gainOf", (register, donor) -> register.gainOf(donor, 0, 0));
        holds(39, "Throws `IllegalArgumentException` if first or last is out of range", () -> {
            AidRegister register = register("donor a 5;");
            noArgument("both below", day -> register.gainOf(0, day, day), -1, LEAST);
            noArgument("both above", day -> register.gainOf(0, day, day), 10000, GREATEST);
            same("neither", register.gainOf(0, 0, 9999), 0);
        });
    }

    private static void bestAsked() {
        holds(40, "Finds the donor of whom one more declaration from day 0 to day 9999 would bring the most aid.", () -> {
            AidRegister register = register("rules 100 0 0;donor a 99;donor b 99;donor c 5;declare a 1 9998;gift 0 1 0 a;gift 9999 2 0 a;"
                    + "gift 5 50 0 a;gift 5 4 0 b;gift 6 9 0 c;");
            same("c brings 5", register.bestAsked(), 2);
            register.setTaxLimit(2, 3);
            same("b brings 4", register.bestAsked(), 1);
            register.setTaxLimit(1, 2);
            same("a brings 3", register.bestAsked(), 0);
            same("the register is as it was", register.totalAid() + register.count(1), 51);
            AidRegister last = register(tenDonors() + "gift 0 999 0 i;gift 0 999 0 j;");
            same("the last of ten", last.bestAsked(), 9);
        });
        holds(40, "Returns number of the donor, the smallest one on a tie; -1 if none would bring any.", () -> {
            same("without donors", new AidRegister().bestAsked(), -1);
            AidRegister register = register("rules 100 0 0;donor a 9;donor b 9;donor c 9;gift 0 1 0 c;gift 0 1 0 b;gift 0 1 1 a;cash 0 9 0;");
            same("a tie of b and c", register.bestAsked(), 1);
            register.refund(1, 1);
            same("c for a penny", register.bestAsked(), 2);
            register.declare(2, 0, 0);
            same("none", register.bestAsked(), -1);
            same("all are declared", Fixtures.full().bestAsked(), -1);
        });
    }

    // --- promise 41

    private static void neededSpan() {
        holds(41, "Finds the shortest span of days for which one more declaration of a donor brings as much aid as one from day 0 to day 9999.",
                () -> {
            AidRegister register = register("rules 100 0 0;donor a 99;declare a 40 49;gift 60 1 0 a;gift 45 9 0 a;gift 30 1 0 a;gift 20 9 9 a;"
                    + "gift 31 1 0 a;gift 5 1 0 a;");
            same("the first day", register.neededSpan(0, false), 5);
            same("the last day", register.neededSpan(0, true), 60);
            register.refund(5, 1);
            same("the first day", register.neededSpan(0, false), 30);
            register.setTaxLimit(0, 10);
            same("the first day, for a penny more", register.neededSpan(0, false), 30);
            same("the last day", register.neededSpan(0, true), 30);
            register.setTaxLimit(0, 11);
            same("the first day, for two pence more", register.neededSpan(0, false), 30);
            same("the last day", register.neededSpan(0, true), 31);
            register.setTaxLimit(0, 9);
            same("at the limit", register.neededSpan(0, false), -1);
        });
        holds(41, "There are at most 60, numbered from 0 in the order in which they are told or made.", () -> {
            AidRegister full = Fixtures.full();
            row("of a full register", donor -> full.neededSpan(donor, true), -1, -1, -1, -1, -1, -1, -1, -1, -1, -1);
            for (int declaration = 0; declaration < 30; declaration++) {
                full.revoke(declaration, 0);
            }
            for (int donor = 0; donor < 10; donor++) {
                same("the first gift of a donor", full.neededSpan(donor, false), 0);
                same("its last gift", full.neededSpan(donor, true), 5 * 365);
            }
            AidRegister sixty = register("rules 100 0 0;donor a 1;" + "gift 9999 1 0 a;".repeat(52));
            for (int gift = 52; gift < 60; gift++) {
                sixty.addGift(0, gift == 59 ? 0 : 9999, 1, 0);
            }
            same("of sixty gifts, the last told is the first", sixty.neededSpan(0, false), 0);
            same("and the others are its end", sixty.neededSpan(0, true), 9999);
        });
        holds(41, "`end`: true for its last day, false for its first one", () -> {
            AidRegister register = register("rules 100 0 0;donor a 99;donor b 99;gift 0 1 0 a;gift 9999 1 0 a;gift 9999 1 0 b;");
            same("day 0", register.neededSpan(0, false), 0);
            same("day 9999", register.neededSpan(0, true), 9999);
            same("of one day, the first", register.neededSpan(1, false), 9999);
            same("of one day, the last", register.neededSpan(1, true), 9999);
            register.refund(1, 1);
            same("of day 0, the first", register.neededSpan(0, false), 0);
            same("of day 0, the last", register.neededSpan(0, true), 0);
        });
        needsDonor(41, "neededSpan", (register, donor) -> register.neededSpan(donor, false));
    }

    private static void shortestSpans() {
        holds(41, "Returns the day (of several spans that are as short the earliest one); -1 if a declaration would bring nothing.", () -> {
            AidRegister register = register("rules 100 0 0;donor a 4;gift 50 2 0 a;gift 52 2 0 a;gift 20 2 0 a;gift 22 2 0 a;gift 80 2 0 a;"
                    + "gift 83 2 0 a;");
            same("the earliest of two", register.neededSpan(0, false), 20);
            same("its last day", register.neededSpan(0, true), 22);
            register.addGift(0, 81, 2, 0);
            same("a shorter one", register.neededSpan(0, false), 80);
            same("its last day", register.neededSpan(0, true), 81);
            register.setTaxLimit(0, 2);
            same("one day is enough", register.neededSpan(0, false), 20);
            register.setTaxLimit(0, 3);
            same("two are needed still", register.neededSpan(0, false), 80);
            register.addGift(0, 364, 3, 0);
            same("one alone", register.neededSpan(0, false), 364);
            register.addGift(0, 365, 1, 0);
            same("of two years", register.neededSpan(0, false), 364);
            same("its last day", register.neededSpan(0, true), 365);
            register.setTaxLimit(0, 0);
            same("the limit 0", register.neededSpan(0, false), -1);
            same("the limit 0", register.neededSpan(0, true), -1);
            AidRegister none = register("donor a 99;donor b 99;declare b 0 9999;cash 0 9 0;gift 5 90 0 b;gift 5 90 90 a;gift 5 3 0 a;");
            same("nothing to bring", none.neededSpan(0, false), -1);
            same("all is declared", none.neededSpan(1, true), -1);
        });
    }

    // --- promise 42

    private static void gainOfSplit() {
        holds(42, "Returns by how much the aid of all parts would change if a gift was split (see split) with the weights 1 and 1.", () -> {
            AidRegister register = register("rules 100 0 0;donor a 3;donor b 99;donor c 0;declare a 0 9;declare b 0 9;gift 5 9 0 a;gift 5 9 0 b;"
                    + "gift 400 9 0 b;gift 0 1 0 b;"
                    + "gift 0 1 0 c;");
            row("to a", gift -> register.gainOfSplit(gift, 0), 0, -4, 0, 0, 0);
            row("to b", gift -> register.gainOfSplit(gift, 1), 4, 0, 0, 0, 0);
            row("to c", gift -> register.gainOfSplit(gift, 2), 0, -4, 0, 0, 0);
            same("the register is as it was", register.totalAid() + register.gift(0, 3), 14);
            same("nor is it a change", register.count(9), 0);
            int before = register.totalAid();
            int gain = register.gainOfSplit(0, 1);
            register.split(0, 1, 1, 1);
            same("as a split brings", register.totalAid() - before, gain);
        });
        holds(42, "Returns the change; 0 if the gift cannot be split so (see split).", () -> {
            AidRegister register = register("rules 100 9 0;donor a 3;donor b 99;donor c 99;declare a 0 9;declare b 0 9;gift 5 9 0 a;"
                    + "split 5 9 0 a 1 c 1;cash 5 9 0;gift 8 9 0 a;"
                    + "gift 3 9 0 b;split 5 9 0 a 1 b 1 c 1;");
            same("to the same donor", register.gainOfSplit(4, 1), 0);
            same("two parts", register.gainOfSplit(1, 1), 0);
            same("no parts", register.gainOfSplit(2, 1), 0);
            same("three parts", register.gainOfSplit(5, 1), 0);
            same("one part", register.gainOfSplit(4, 2), -4);
            register.claim(5);
            same("claimed", register.gainOfSplit(4, 2), 0);
            same("not claimed", register.gainOfSplit(3, 1), 4);
            register.refund(3, 1);
            same("a refund", register.gainOfSplit(3, 1), 0);
        });
        holds(42, "Throws `IndexOutOfBoundsException` if there is no such gift or donor", () -> {
            AidRegister one = register(tenDonors() + "gift 0 10 0 a;");
            AidRegister sixty = register(tenDonors() + "cash 0 1 0;".repeat(60));
            noIndex("gift of none", gift -> register("donor a 1;").gainOfSplit(gift, 0), -1, 0);
            noIndex("gift of one", gift -> one.gainOfSplit(gift, 1), -1, 1, LEAST, GREATEST);
            noIndex("gift of sixty", gift -> sixty.gainOfSplit(gift, 0), -1, 60, LEAST, GREATEST);
            noIndex("donor of ten", donor -> one.gainOfSplit(0, donor), -1, 10, LEAST, GREATEST);
            noIndex("donor of a gift that cannot be split", donor -> sixty.gainOfSplit(0, donor), -1, 10);
            same("the last of both", sixty.gainOfSplit(59, 9) + one.gainOfSplit(0, 9), 0);
        });
    }
}
