/** Promises 18 to 24 and 50 to 52, sentence by sentence: changes, and what takes them back. */
final class BoundsOfChanges extends Bounds {
    private static final String NO_SUCH_GIFT = "Throws `IndexOutOfBoundsException` if there is no such gift";

    private BoundsOfChanges() {
    }

    static void all() {
        declare();
        revoke();
        addGift();
        split();
        splitRefuses();
        refund();
        setTaxLimit();
        setRate();
        undo();
        tenChanges();
        saveState();
        restoreState();
    }

    // --- promises 18 and 19

    private static void declare() {
        holds(18, "Makes a declaration. This is a change.", () -> {
            AidRegister register = register("donor a 99;donor b 99;gift 0 4 0 a;gift 9999 4 0 a;gift 0 4 0 b;");
            register.declare(0, 0, 0);
            row("the aid", gift -> register.gift(gift, 6), 1, 0, 0);
            register.declare(0, 9999, 9999);
            row("the aid", gift -> register.gift(gift, 6), 1, 1, 0);
            register.declare(1, 1, 9999);
            register.declare(1, 0, 9999);
            row("the aid", gift -> register.gift(gift, 6), 1, 1, 1);
            same("changes", register.count(9), 4);
            same("undo", register.undo(), 3);
            row("the aid", gift -> register.gift(gift, 6), 1, 1, 0);
        });
        holds(18, "`first`: first day, 0 to 9999", () -> {
            AidRegister register = register("donor a 5;");
            same("from 0", register.declare(0, 0, 9999), 0);
            same("from 9999", register.declare(0, 9999, 9999), 1);
            noArgument("first", first -> register.declare(0, first, 9999), -1, 10000, LEAST, GREATEST);
            row("the first days", d -> register.declaration(d, 1), 0, 9999);
        });
        holds(18, "`last`: last day, first to 9999", () -> {
            AidRegister register = register("donor a 5;");
            same("to 0", register.declare(0, 0, 0), 0);
            same("to the first day", register.declare(0, 7, 7), 1);
            same("to 9999", register.declare(0, 7, 9999), 2);
            noArgument("last", last -> register.declare(0, 7, last), 6, 0, -1, 10000, LEAST, GREATEST);
            row("the last days", d -> register.declaration(d, 2), 0, 7, 9999);
        });
        holds(18, "Returns its number.", () -> {
            AidRegister register = register("donor a 5;declare a 0 0;");
            for (int declaration = 1; declaration < 30; declaration++) {
                same("declare", register.declare(0, declaration, declaration), declaration);
            }
            register.undo();
            same("in place of an undone one", register.declare(0, 99, 99), 29);
            same("its first day", register.declaration(29, 1), 99);
        });
        needsDonor(18, "declare", (register, donor) -> register.declare(donor, 0, 0));
        holds(18, "Throws `IllegalArgumentException` if first or last is out of range", () -> {
            AidRegister register = register("donor a 5;");
            noArgument("both below", day -> register.declare(0, day, day), -1, LEAST);
            noArgument("both above", day -> register.declare(0, day, day), 10000, GREATEST);
            same("declarations", register.count(1), 0);
        });
        holds(18, "Throws `IllegalStateException` if there are 30 declarations", () -> {
            AidRegister register = register("donor a 5;" + "declare a 0 0;".repeat(29));
            same("the 30th", register.declare(0, 0, 0), 29);
            noState("the 31st", () -> register.declare(0, 0, 0));
            register.revoke(0, 0);
            noState("behind a revocation", () -> register.declare(0, 0, 0));
            register.undo();
            register.undo();
            same("behind undos", register.declare(0, 0, 0), 29);
        });
    }

    private static void revoke() {
        holds(19, "Revokes a declaration from a day on. This is a change.", () -> {
            AidRegister register = register("donor a 99;declare a 5 9;declare a 0 9;gift 4 4 0 a;gift 7 4 0 a;gift 8 4 0 a;");
            register.revoke(1, 8);
            row("another one is in force still", gift -> register.gift(gift, 6), 1, 1, 1);
            register.revoke(0, 8);
            row("from day 8 on none is", gift -> register.gift(gift, 6), 1, 1, 0);
            register.revoke(0, 9);
            same("a revocation that alters nothing is a change", register.count(9), 3);
            same("undo", register.undo(), 2);
            same("undo", register.undo(), 1);
            row("another one is in force again", gift -> register.gift(gift, 6), 1, 1, 1);
        });
        holds(19, "If a declaration is revoked from a day on, its last day becomes the day before (if that is earlier than its last day); if that is"
                + " before its first day, it is in force on no day any more.", () -> {
            int[] days = {9999, 22, 21, 20, 11, 10, 9, 1, 0};
            int[] lasts = {20, 20, 20, 19, 10, 9, 8, 0, -1};
            for (int i = 0; i < days.length; i++) {
                AidRegister register = register("donor a 5;declare a 10 20;");
                register.revoke(0, days[i]);
                String from = "from day " + days[i] + " on";
                same("the last day, " + from, register.declaration(0, 2), lasts[i]);
                same("the first day, " + from, register.declaration(0, 1), 10);
                same("the days, " + from, register.declaration(0, 3), Math.max(0, lasts[i] - 9));
                same("the first day declared, " + from, register.isDeclared(0, 10) ? 1 : 0, lasts[i] >= 10 ? 1 : 0);
                same("coverage, " + from, register.coverage(0, 0, 9999), Math.max(0, lasts[i] - 9));
                same("longestSpan, " + from, register.longestSpan(0), Math.max(0, lasts[i] - 9));
                register.revoke(0, 9999);
                same("the last day does not become later, " + from, register.declaration(0, 2), lasts[i]);
            }
            AidRegister register = register("donor a 5;declare a 9999 9999;declare a 0 0;");
            register.revoke(0, 9999);
            register.revoke(1, 0);
            same("the last day of all", register.declaration(0, 2), 9998);
            same("the first day of all", register.declaration(1, 2), -1);
            same("coverage", register.coverage(0, 0, 9999), 0);
        });
        holds(19, "`day`: 0 to 9999", () -> {
            AidRegister register = register("donor a 5;declare a 0 9999;");
            noArgument("revoke", day -> register.revoke(0, day), -1, 10000, LEAST, GREATEST);
            same("from 9999 on", register.revoke(0, 9999), 1);
            same("from 0 on", register.revoke(0, 0), 9999);
        });
        holds(19, "Returns the number of days on which it is in force no more.", () -> {
            AidRegister register = register("donor a 5;declare a 10 20;declare a 10 20;declare a 0 9999;declare a 0 0;");
            int[] days = {21, 20, 20, 18, 19, 11, 10, 9, 0};
            int[] due = {0, 1, 0, 2, 0, 7, 1, 0, 0};
            for (int i = 0; i < days.length; i++) {
                same("from day " + days[i] + " on", register.revoke(0, days[i]), due[i]);
            }
            same("from before its first day on", register.revoke(1, 3), 11);
            same("all days", register.revoke(2, 0), 10000);
            same("the one day", register.revoke(3, 0), 1);
        });
        holds(19, "Throws `IndexOutOfBoundsException` if there is no such declaration", () -> {
            AidRegister one = register("donor a 5;declare a 0 0;");
            AidRegister full = Fixtures.full();
            noIndex("of none", d -> new AidRegister().revoke(d, 0), -1, 0);
            noIndex("of one", d -> one.revoke(d, 0), -1, 1, LEAST, GREATEST);
            noIndex("of thirty", d -> full.revoke(d, 0), -1, 30, LEAST, GREATEST);
            same("the last of thirty", full.revoke(29, 0), 10000);
        });
        holds(19, "Throws `IllegalArgumentException` if day is out of range", () -> {
            AidRegister register = register("donor a 5;declare a 0 9999;");
            noArgument("revoke", day -> register.revoke(0, day), -1, 10000);
            same("the days", register.declaration(0, 3), 10000);
        });
    }

    // --- promise 20

    private static void addGift() {
        holds(20, "Makes a gift of one donor, or of nobody known. This is a change.", () -> {
            AidRegister register = register("donor a 99;donor b 99;declare b 5 5;");
            register.addGift(1, 5, 40, 10);
            register.addGift(-1, 5, 40, 11);
            row("of b", what -> register.gift(0, what), 5, 40, 10, 1, 40, 0, 10, 0);
            row("of nobody", what -> register.gift(1, what), 5, 40, 11, 0, 40, 1, 0, 0);
            same("its donor", register.part(0, 0, 0), 1);
            same("changes", register.count(9), 2);
            same("undo", register.undo(), 1);
            same("gifts", register.count(2), 1);
        });
        holds(20, "`donor`: number of a donor, or -1 for nobody known", () -> {
            AidRegister register = register(tenDonors());
            register.addGift(-1, 0, 1, 0);
            register.addGift(0, 0, 1, 0);
            register.addGift(9, 0, 1, 0);
            row("the parts", gift -> register.gift(gift, 3), 0, 1, 1);
            same("the first donor", register.part(1, 0, 0), 0);
            same("the last donor", register.part(2, 0, 0), 9);
            same("without donors", new AidRegister().addGift(-1, 0, 1, 0), 0);
        });
        holds(20, "`day`: 0 to 9999", () -> {
            AidRegister register = register("donor a 5;");
            register.addGift(0, 0, 1, 0);
            register.addGift(0, 9999, 1, 0);
            row("the days", gift -> register.gift(gift, 0), 0, 9999);
            noArgument("day", day -> register.addGift(0, day, 1, 0), -1, 10000, LEAST, GREATEST);
        });
        holds(20, "`amount`: 1 to 999999", () -> {
            AidRegister register = register("donor a 5;");
            register.addGift(0, 0, 1, 0);
            register.addGift(0, 0, 999999, 0);
            row("the amounts", gift -> register.gift(gift, 1), 1, 999999);
            noArgument("amount", amount -> register.addGift(0, 0, amount, 0), 0, -1, 1000000, LEAST, GREATEST);
        });
        holds(20, "`benefit`: 0 to 999999", () -> {
            AidRegister register = register("donor a 5;");
            register.addGift(0, 0, 1, 0);
            register.addGift(0, 0, 1, 999999);
            row("the benefits", gift -> register.gift(gift, 2), 0, 999999);
            noArgument("benefit", benefit -> register.addGift(0, 0, 1, benefit), -1, 1000000, LEAST, GREATEST);
        });
        holds(20, "Returns its number.", () -> {
            AidRegister register = register("donor a 5;cash 0 1 0;");
            for (int gift = 1; gift < 60; gift++) {
                same("addGift", register.addGift(gift % 2 - 1, 99 - gift, gift, 0), gift);
            }
            same("the last", register.gift(59, 1), 59);
            register.undo();
            same("in place of an undone one", register.addGift(0, 0, 77, 0), 59);
            same("its amount", register.gift(59, 1), 77);
        });
        holds(20, "Throws `IndexOutOfBoundsException` if donor is not -1, and there is no such donor", () -> {
            AidRegister empty = new AidRegister();
            AidRegister one = register("donor a 5;");
            AidRegister ten = register(tenDonors());
            noIndex("of none", donor -> empty.addGift(donor, 0, 1, 0), -2, 0, 1);
            noIndex("of one", donor -> one.addGift(donor, 0, 1, 0), -2, 1, LEAST, GREATEST);
            noIndex("of ten", donor -> ten.addGift(donor, 0, 1, 0), -2, 10, LEAST, GREATEST);
            same("-1", empty.addGift(-1, 0, 1, 0) + one.addGift(-1, 0, 1, 0) + ten.addGift(-1, 0, 1, 0), 0);
        });
        holds(20, "Throws `IllegalArgumentException` if day, amount or benefit is out of range", () -> {
            AidRegister register = register("donor a 5;");
            for (int donor = -1; donor <= 0; donor++) {
                int number = donor;
                noArgument("day", day -> register.addGift(number, day, 1, 0), -1, 10000);
                noArgument("amount", amount -> register.addGift(number, 0, amount, 0), 0, 1000000);
                noArgument("benefit", benefit -> register.addGift(number, 0, 1, benefit), -1, 1000000);
            }
            same("gifts", register.count(2), 0);
        });
        holds(20, "Throws `IllegalStateException` if there are 60 gifts", () -> {
            AidRegister register = register("donor a 5;" + "cash 0 1 0;".repeat(59));
            same("the 60th", register.addGift(0, 0, 1, 0), 59);
            noState("the 61st", () -> register.addGift(0, 0, 1, 0));
            noState("the 61st, of nobody", () -> register.addGift(-1, 9999, 999999, 999999));
            register.refund(0, 1);
            noState("behind a refund of all", () -> register.addGift(0, 0, 1, 0));
            register.undo();
            register.undo();
            same("behind undos", register.addGift(-1, 0, 1, 0), 59);
        });
    }

    // --- promise 21

    private static void split() {
        holds(21, "Splits a gift of one donor that has no refund, and of which nothing is claimed, between this donor and another one: the gift has"
                + " two parts then, in this order, with their weights. This is a change.", () -> {
            AidRegister register = register("rules 100 9999 0;donor a 99;donor b 99;declare a 0 9;declare b 0 9;gift 5 30 0 b;gift 5 7 0 a;");
            register.split(0, 1, 0, 9);
            row("the parts", gift -> register.gift(gift, 3), 2, 1);
            row("the donors", part -> register.part(0, part, 0), 1, 0);
            row("the amounts", part -> register.part(0, part, 1), 3, 27);
            row("their aid", part -> register.part(0, part, 4), 3, 27);
            same("changes", register.count(9), 1);
            same("undo", register.undo(), 0);
            row("the parts", gift -> register.gift(gift, 3), 1, 1);
            same("all is of b again", register.part(0, 0, 1), 30);
        });
        holds(21, "`weight`: weight of the donor, 1 to 9", () -> {
            AidRegister register = register("donor a 5;donor b 5;gift 0 10 0 a;gift 0 10 0 a;");
            noArgument("weight", weight -> register.split(0, weight, 1, 1), 0, 10, -1, LEAST, GREATEST);
            same("1", register.split(0, 1, 1, 1), 5);
            same("9", register.split(1, 9, 1, 1), 1);
        });
        holds(21, "`otherWeight`: weight of the other donor, 1 to 9", () -> {
            AidRegister register = register("donor a 5;donor b 5;gift 0 10 0 a;gift 0 10 0 a;");
            noArgument("otherWeight", weight -> register.split(0, 1, 1, weight), 0, 10, -1, LEAST, GREATEST);
            same("1", register.split(0, 4, 1, 1), 2);
            same("9", register.split(1, 1, 1, 9), 9);
        });
        holds(21, "Returns the amount of the part of the other donor.", () -> {
            int[][] amountWeightsDue = {{1, 1, 1, 0}, {1, 1, 9, 0}, {2, 1, 9, 1}, {3, 1, 1, 1}, {3, 1, 2, 2}, {999999, 1, 9, 899999}, {999999, 9,
                    9, 499999},
                {999999, 9, 1, 99999}};
            for (int[] v : amountWeightsDue) {
                AidRegister register = register("donor a 5;donor b 5;gift 0 " + v[0] + " 0 b;");
                same(java.util.Arrays.toString(v), register.split(0, v[1], 0, v[2]), v[3]);
                same("the part", register.part(0, 1, 1), v[3]);
                same("the rest", register.part(0, 0, 1), v[0] - v[3]);
            }
        });
    }

    private static void splitRefuses() {
        holds(21, "Throws `IndexOutOfBoundsException` if there is no such gift or donor", () -> {
            AidRegister one = register(tenDonors() + "gift 0 10 0 a;");
            AidRegister sixty = register(tenDonors() + "cash 0 1 0;".repeat(59) + "gift 0 9 0 j;");
            noIndex("gift of none", gift -> register("donor a 1;").split(gift, 1, 0, 1), -1, 0);
            noIndex("gift of one", gift -> one.split(gift, 1, 1, 1), -1, 1, LEAST, GREATEST);
            noIndex("gift of sixty", gift -> sixty.split(gift, 1, 0, 1), -1, 60, LEAST, GREATEST);
            noIndex("donor of ten", donor -> one.split(0, 1, donor, 1), -1, 10, LEAST, GREATEST);
            same("the last gift and the first donor", sixty.split(59, 1, 0, 2), 6);
            same("the first gift and the last donor", one.split(0, 1, 9, 4), 8);
        });
        holds(21, "Throws `IllegalArgumentException` if a weight is out of range, or the other donor is the donor of the one part of the gift",
                () -> {
            AidRegister register = register("rules 50 9999 0;donor a 50;donor b 5;declare a 0 0;gift 0 10 0 a;gift 0 10 0 a;split 0 10 0 a 1 b 1;");
            Check.noArgument("a and a", () -> register.split(0, 1, 0, 1));
            Check.noArgument("the weights 0 and 0", () -> register.split(0, 0, 1, 0));
            register.claim(0);
            register.refund(1, 5);
            Check.noArgument("a and a, behind a refund", () -> register.split(1, 1, 0, 1));
            Check.noArgument("a weight, of two parts", () -> register.split(2, 0, 0, 1));
            noState("a of two parts", () -> register.split(2, 1, 0, 1));
            noState("b of two parts", () -> register.split(2, 1, 1, 1));
        });
        holds(21, "Throws `IllegalStateException` if the gift does not have one part, has a refund, or something of it is claimed", () -> {
            AidRegister register = register("rules 100 0 0;donor a 99;donor b 99;donor c 99;declare a 5 5;cash 5 9 0;split 5 9 0 a 1 b 1;"
                    + "split 5 9 0 a 1 b 1 c 1;gift 5 9 0 a;gift 6 9 0 a;gift 5 9 0 a;");
            noState("no parts", () -> register.split(0, 1, 0, 1));
            noState("two parts", () -> register.split(1, 1, 2, 1));
            noState("three parts", () -> register.split(2, 1, 0, 1));
            register.refund(3, 1);
            noState("a refund of a penny", () -> register.split(3, 1, 1, 1));
            register.undo();
            same("no refund any more", register.split(3, 1, 1, 1), 4);
            register.claim(5);
            same("nothing of it is claimed", register.split(4, 1, 1, 1), 4);
            noState("claimed", () -> register.split(5, 1, 1, 1));
            register.setRate(0);
            noState("claimed still, without aid", () -> register.split(5, 1, 1, 1));
            register.claim(5);
            same("all paid back", register.split(5, 1, 1, 1), 4);
            AidRegister penny = register("rules 100 0 0;donor a 1;donor b 1;declare a 0 0;gift 0 999999 0 a;gift 0 9 0 a;");
            penny.claim(0);
            noState("a penny is claimed", () -> penny.split(0, 1, 1, 1));
            same("of the other gift nothing", penny.split(1, 1, 1, 1), 4);
            penny.undo();
            penny.undo();
            penny.refund(0, 999999);
            noState("a refund of all", () -> penny.split(0, 1, 1, 1));
        });
    }

    // --- promises 22 to 24

    private static void refund() {
        holds(22, "A refund of an amount is taken from the parts of a gift, from the last one to the first one, from each at most what is left of it;"
                + " of a gift without parts it is taken from the gift alone.", () -> {
            int[][] amountLeft = {{1, 3, 4, 4}, {4, 3, 4, 1}, {5, 3, 4, 0}, {6, 3, 3, 0}, {8, 3, 1, 0}, {9, 3, 0, 0}, {10, 2, 0, 0}, {12, 0, 0, 0}};
            for (int[] v : amountLeft) {
                AidRegister register = register("rules 100 0 0;donor a 99;donor b 99;donor c 99;declare a 0 0;declare b 0 0;declare c 0 0;"
                        + "split 0 12 0 c 3 a 4 b 5;gift 0 7 0 c;");
                register.refund(0, v[0]);
                row("left behind a refund of " + v[0], part -> register.part(0, part, 2), v[1], v[2], v[3]);
                row("the aid", part -> register.part(0, part, 4), v[1], v[2], v[3]);
                same("the other gift", register.part(1, 0, 2), 7);
            }
            AidRegister register = register("donor a 9;cash 0 9 0;gift 0 9 0 a;");
            same("of nobody", register.refund(0, 9), 0);
            same("left of the donor's", register.donor(0, 0, -1), 9);
            same("of a", register.refund(1, 9), 0);
            same("left of the donor's", register.donor(0, 0, -1), 0);
        });
        holds(22, "Refunds a part of a gift. This is a change.", () -> {
            AidRegister register = register("donor a 99;donor b 99;declare b 0 9;split 0 80 0 a 1 b 1;");
            register.refund(0, 4);
            same("the aid", register.totalAid(), 9);
            register.refund(0, 4);
            same("changes", register.count(9), 2);
            register.undo();
            same("left", register.gift(0, 4), 76);
            same("left of b", register.part(0, 1, 2), 36);
        });
        holds(22, "`amount`: 1 to 999999", () -> {
            AidRegister register = register("donor a 9;gift 0 999999 0 a;gift 0 999999 0 a;");
            noArgument("amount", amount -> register.refund(0, amount), 0, -1, 1000000, LEAST, GREATEST);
            same("1", register.refund(0, 1), 999998);
            same("999999", register.refund(1, 999999), 0);
        });
        holds(22, "Returns what is left of the gift.", () -> {
            AidRegister register = register("donor a 9;donor b 9;split 0 5 0 a 1 b 1;cash 0 2 0;");
            row("one penny after the other", left -> register.refund(0, 1), 4, 3, 2, 1, 0);
            row("of nobody", left -> register.refund(1, 1), 1, 0);
        });
        holds(22, NO_SUCH_GIFT, () -> {
            AidRegister one = register("cash 0 1 0;");
            AidRegister sixty = register("cash 0 1 0;".repeat(60));
            noIndex("of none", gift -> new AidRegister().refund(gift, 1), -1, 0);
            noIndex("of one", gift -> one.refund(gift, 1), -1, 1, LEAST, GREATEST);
            noIndex("of sixty", gift -> sixty.refund(gift, 1), -1, 60, LEAST, GREATEST);
            same("the last", sixty.refund(59, 1), 0);
        });
        holds(22, "Throws `IllegalArgumentException` if amount is out of range", () -> {
            AidRegister register = register("cash 0 1 0;");
            noArgument("amount", amount -> register.refund(0, amount), 0, 1000000);
            register.refund(0, 1);
            noArgument("where nothing is left", amount -> register.refund(0, amount), 0, 1000000);
        });
        holds(22, "Throws `IllegalStateException` if less is left of the gift", () -> {
            AidRegister register = register("donor a 9;donor b 9;split 0 5 0 a 1 b 1;cash 0 5 0;");
            for (int gift = 0; gift < 2; gift++) {
                int number = gift;
                noState("6 of 5", () -> register.refund(number, 6));
                same("3 of 5", register.refund(gift, 3), 2);
                noState("3 of 2", () -> register.refund(number, 3));
                noState("999999 of 2", () -> register.refund(number, 999999));
                same("2 of 2", register.refund(gift, 2), 0);
                noState("1 of 0", () -> register.refund(number, 1));
            }
        });
    }

    private static void setTaxLimit() {
        holds(23, "Sets the tax limit of a donor. This is a change.", () -> {
            AidRegister register = register("rules 100 0 0;donor a 3;donor b 3;declare a 0 9;declare b 0 9;gift 0 5 0 a;gift 0 5 0 b;");
            register.setTaxLimit(1, 4);
            row("the aid", gift -> register.gift(gift, 6), 3, 4);
            register.setTaxLimit(1, 4);
            same("the same limit again is a change", register.count(9), 2);
            register.undo();
            register.undo();
            row("the limits", register::taxLimit, 3, 3);
            row("the aid", gift -> register.gift(gift, 6), 3, 3);
        });
        holds(23, "`limit`: 0 to 999999", () -> {
            AidRegister register = register("donor a 5;");
            noArgument("limit", limit -> register.setTaxLimit(0, limit), -1, 1000000, LEAST, GREATEST);
            register.setTaxLimit(0, 0);
            same("0", register.taxLimit(0), 0);
            register.setTaxLimit(0, 999999);
            same("999999", register.taxLimit(0), 999999);
        });
        holds(23, "Returns the tax limit before.", () -> {
            AidRegister register = register("donor a 5;donor b 6;");
            int[] limits = {0, 999999, 7, 7};
            row("setTaxLimit", i -> register.setTaxLimit(0, limits[i]), 5, 0, 999999, 7);
            same("of b", register.setTaxLimit(1, 0), 6);
            register.undo();
            register.undo();
            register.undo();
            same("behind undos", register.setTaxLimit(0, 1), 999999);
        });
        needsDonor(23, "setTaxLimit", (register, donor) -> register.setTaxLimit(donor, 0));
        holds(23, "Throws `IllegalArgumentException` if limit is out of range", () -> {
            AidRegister register = register("donor a 5;");
            noArgument("limit", limit -> register.setTaxLimit(0, limit), -1, 1000000);
            same("the limit", register.taxLimit(0), 5);
        });
    }

    private static void setRate() {
        holds(24, "Sets the rate. This is a change.", () -> {
            AidRegister register = register("donor a 99;declare a 0 9;gift 0 50 0 a;");
            register.setRate(100);
            same("the aid", register.totalAid(), 50);
            register.setRate(100);
            same("the same rate again is a change", register.count(9), 2);
            register.undo();
            register.undo();
            same("the aid", register.totalAid(), 12);
        });
        holds(24, "`rate`: 0 to 100", () -> {
            AidRegister register = new AidRegister();
            noArgument("rate", register::setRate, -1, 101, LEAST, GREATEST);
            register.setRate(0);
            same("0", register.count(5), 0);
            register.setRate(100);
            same("100", register.count(5), 100);
        });
        holds(24, "Returns the rate before.", () -> {
            AidRegister register = new AidRegister();
            int[] rates = {0, 100, 7, 7};
            row("setRate", i -> register.setRate(rates[i]), 25, 0, 100, 7);
            register.undo();
            register.undo();
            same("behind undos", register.setRate(1), 100);
        });
        holds(24, "Throws `IllegalArgumentException` if rate is out of range", () -> {
            AidRegister register = new AidRegister();
            noArgument("rate", register::setRate, -1, 101);
            same("the rate", register.count(5), 25);
        });
    }

    // --- promise 50

    private static void undo() {
        holds(50, "Undoes the latest change that was not undone.", () -> {
            AidRegister register = register("donor a 99;");
            for (int limit = 1; limit <= 4; limit++) {
                register.setTaxLimit(0, limit);
            }
            register.undo();
            same("the fourth is undone", register.taxLimit(0), 3);
            register.undo();
            same("then the third", register.taxLimit(0), 2);
            register.setTaxLimit(0, 50);
            register.undo();
            same("then the fifth", register.taxLimit(0), 2);
            register.undo();
            same("then the second", register.taxLimit(0), 1);
            register.undo();
            same("then the first", register.taxLimit(0), 99);
            register.undo();
            same("then none", register.taxLimit(0), 99);
        });
        holds(50, "Returns the number of changes that can still be undone; -1 if there was none.", () -> {
            AidRegister register = new AidRegister();
            same("of none", register.undo(), -1);
            register.setRate(1);
            same("of one", register.undo(), 0);
            same("of none", register.undo(), -1);
            same("again", register.undo(), -1);
            same("the rate", register.count(5), 25);
            register.setRate(1);
            register.setRate(2);
            same("of two", register.undo(), 1);
            same("changes that can be undone", register.count(9), 1);
        });
        holds(50, "Changes are the methods whose description says so.", () -> {
            AidRegister register = Fixtures.busy();
            same("behind two changes", register.count(9), 2);
            register.truncateInput(0);
            register.appendInput(0x20202020, 0x20202020, 0x20202020, 0x20202020, 0x20202023);
            register.saveState();
            register.printStatement(0);
            register.outputByte(0);
            register.errorCode();
            register.errorOffset();
            same("a load with an error", register.loadRegister(), -1);
            same("no change was made", register.count(9), 2);
            register.declare(0, 0, 0);
            register.revoke(0, 0);
            register.addGift(0, 0, 1, 0);
            register.split(4, 1, 1, 1);
            register.refund(4, 1);
            register.setTaxLimit(0, 0);
            register.setRate(0);
            register.claim(9999);
            same("eight changes were made", register.count(9), 10);
            row("undo", i -> register.undo(), 9, 8, 7, 6, 5, 4, 3, 2);
            same("the aid before them", register.totalAid(), 180);
        });
    }

    private static void tenChanges() {
        holds(50, "The latest 10 changes can be undone.", () -> {
            for (int changes : new int[] {9, 10, 11, 12, 20, 21, 35}) {
                AidRegister register = register("donor a 0;");
                for (int limit = 1; limit <= changes; limit++) {
                    register.setTaxLimit(0, limit);
                }
                int undos = Math.min(changes, 10);
                same("of " + changes, register.count(9), undos);
                for (int undone = 1; undone <= undos; undone++) {
                    same("undo", register.undo(), undos - undone);
                    same("the limit", register.taxLimit(0), changes - undone);
                }
                same("one more", register.undo(), -1);
                same("the limit", register.taxLimit(0), changes - undos);
                register.setTaxLimit(0, 500);
                same("a change behind them", register.undo(), 0);
                same("the limit", register.taxLimit(0), changes - undos);
            }
            AidRegister full = Fixtures.full();
            row("of a full register", i -> full.undo(), 9, 8, 7, 6, 5, 4, 3, 2, 1, 0, -1);
            same("its claims", full.count(4), 10);
        });
    }

    // --- promises 51 and 52

    private static void saveState() {
        holds(51, "Saves everything but the input buffer, the reported error, the output and the changes that can be undone, in place of an earlier"
                + " saved state.", () -> {
            AidRegister register = Fixtures.busy();
            register.saveState();
            String saved = Snapshot.brief(register).replaceFirst("count 9: 2", "count 9: 0");
            register.setRate(1);
            register.setTaxLimit(1, 2);
            register.claim(9999);
            register.addGift(0, 0, 1, 0);
            register.declare(0, 0, 9999);
            register.printStatement(0);
            register.truncateInput(3);
            register.restoreState();
            same("what was saved", Snapshot.brief(register), saved);
            same("the claims", register.claimed(0, 1), 160);
            same("the output is the later one", register.outputByte(3) - '4', 0);
            same("the error is the later one", register.errorCode(), AidRegister.SYNTAX);
            no("the buffer is the later one", register.truncateInput(4));
            register.setRate(7);
            register.claim(200);
            register.saveState();
            register.undo();
            register.undo();
            register.claim(300);
            same("another claim", register.claimed(1, 0), 300);
            register.restoreState();
            same("in place of the earlier one", register.count(5), 7);
            same("its claim", register.claimed(1, 0), 200);
        });
        holds(51, "Returns the number of gifts.", () -> {
            AidRegister register = new AidRegister();
            same("of none", register.saveState(), 0);
            register.addGift(-1, 0, 1, 0);
            same("of one", register.saveState(), 1);
            register.undo();
            same("of none again", register.saveState(), 0);
            same("of sixty", Fixtures.full().saveState(), 60);
        });
    }

    private static void restoreState() {
        holds(52, "Restores the saved state, which stays saved.", () -> {
            AidRegister register = Fixtures.full();
            String before = Snapshot.brief(register).replaceFirst("count 9: 10", "count 9: 0");
            same("saveState", register.saveState(), 60);
            for (int round = 0; round < 2; round++) {
                register.setRate(round);
                register.refund(59, 999999);
                register.revoke(29, 0);
                register.undo();
                same("restoreState", register.restoreState(), 60);
                same("the rate", register.count(5), 100);
                same("left", register.gift(59, 4), 999999);
                same("the last day", register.declaration(29, 2), 9999);
            }
            same("all", Snapshot.brief(register), before);
            AidRegister empty = new AidRegister();
            empty.saveState();
            empty.addGift(-1, 0, 1, 0);
            same("an empty one", empty.restoreState(), 0);
            same("its gifts", empty.count(2), 0);
        });
        holds(52, "Nothing can be undone then.", () -> {
            AidRegister register = register("donor a 5;");
            register.setRate(1);
            register.saveState();
            register.setRate(2);
            same("undo before", register.undo(), 1);
            register.restoreState();
            same("changes", register.count(9), 0);
            same("undo", register.undo(), -1);
            same("the rate", register.count(5), 1);
            register.setRate(3);
            same("undo of a change behind it", register.undo(), 0);
            same("the rate", register.count(5), 1);
            AidRegister full = Fixtures.full();
            full.saveState();
            full.restoreState();
            same("undo of ten changes", full.undo(), -1);
        });
        holds(52, "Returns the number of gifts.", () -> {
            AidRegister register = new AidRegister();
            register.saveState();
            register.addGift(-1, 0, 1, 0);
            same("none", register.restoreState(), 0);
            register.addGift(-1, 0, 1, 0);
            register.saveState();
            register.undo();
            same("one", register.restoreState(), 1);
        });
        holds(52, "Throws `IllegalStateException` if no state is saved", () -> {
            AidRegister register = new AidRegister();
            noState("of a new object", register::restoreState);
            register.setRate(1);
            noState("behind a change", register::restoreState);
            register.saveState();
            register.undo();
            same("an undo leaves what is saved", register.restoreState(), 0);
            same("the rate", register.count(5), 1);
            same("a load with an error", Texts.load(register, "#"), -1);
            same("leaves what is saved", register.restoreState(), 0);
            same("a load", Texts.load(register, ""), 0);
            noState("behind a load", register::restoreState);
        });
    }
}
