/** Promises 25 to 33, sentence by sentence: claims, and what stands open. */
final class BoundsOfClaims extends Bounds {
    private BoundsOfClaims() {
    }

    static void all() {
        numbersOfClaims();
        claimDays();
        claim();
        refusedClaims();
        claimed();
        claimable();
        sums();
        lost();
        mostUrgent();
        limitedYears();
        expiring();
    }

    // --- promise 25

    private static void numbersOfClaims() {
        holds(25, "There are at most 20, numbered from 0.", () -> {
            AidRegister register = new AidRegister();
            for (int claim = 0; claim < 20; claim++) {
                same("claims", register.count(4), claim);
                register.claim(claim);
                same("the day of claim " + claim, register.claimed(claim, 0), claim);
            }
            noState("a 21st", () -> register.claim(9999));
            same("claims", register.count(4), 20);
            same("the first", register.claimed(0, 0), 0);
        });
        holds(25, "A claim is made on a day, not before the day of the claim before it.", () -> {
            AidRegister register = new AidRegister();
            register.claim(0);
            register.claim(0);
            register.claim(9998);
            noState("the day before", () -> register.claim(9997));
            noState("day 0", () -> register.claim(0));
            same("the same day", register.claim(9998), 0);
            same("the day behind", register.claim(9999), 0);
            noState("the day before the last one", () -> register.claim(9998));
            same("the last day", register.claim(9999), 0);
            register.undo();
            register.undo();
            same("the day before, behind undos", register.claim(9998), 0);
        });
    }

    private static void claimDays() {
        holds(25, "It looks at each part of each gift with a day not after that of the claim.", () -> {
            AidRegister register = register("rules 100 9999 0;donor a 99;donor b 99;declare a 0 9999;declare b 0 9999;gift 10 1 0 a;"
                    + "split 11 6 0 a 1 b 2;"
                    + "gift 0 8 0 b;gift 9999 16 0 a;");
            same("on day 0", register.claim(0), 8);
            same("on day 9", register.claim(9), 0);
            same("on day 10", register.claim(10), 1);
            same("on day 11", register.claim(11), 6);
            same("on day 9998", register.claim(9998), 0);
            same("on day 9999", register.claim(9999), 16);
            AidRegister back = register("rules 100 9999 0;donor a 99;declare a 0 9999;gift 5 7 0 a;");
            back.claim(5);
            back.setRate(0);
            back.undo();
            same("what was claimed", back.part(0, 0, 5), 7);
            back.undo();
            back.claim(4);
            same("what is not looked at", back.part(0, 0, 5), 0);
        });
        holds(25, "If the aid of the part is greater than its claimed amount, and the day of the claim minus the day of the gift is at most the window,"
                + " the difference is claimed, and the claimed amount becomes the aid.", () -> {
            int[][] windowGiftClaimDue = {
                {0, 5, 5, 1}, {0, 5, 6, 0}, {10, 5, 14, 1}, {10, 5, 15, 1}, {10, 5, 16, 0}, {9999, 0, 9999, 1}, {9998, 0, 9999, 0}, {9998, 1, 9999,
                        1},
                {9999, 9999, 9999, 1}, {0, 9999, 9999, 1}, {1460, 0, 1460, 1}, {1460, 0, 1461, 0}
            };
            for (int[] v : windowGiftClaimDue) {
                AidRegister register = register("rules 100 " + v[0] + " 0;donor a 99;declare a 0 9999;gift " + v[1] + " 7 0 a;");
                String name = java.util.Arrays.toString(v);
                same(name, register.claim(v[2]), 7 * v[3]);
                same("the claimed amount, " + name, register.part(0, 0, 5), 7 * v[3]);
            }
            AidRegister register = register("rules 50 10 0;donor a 99;declare a 0 9999;gift 0 9 0 a;");
            same("at first", register.claim(0), 4);
            same("not again", register.claim(0), 0);
            register.setRate(60);
            same("a penny more", register.claim(10), 1);
            register.setRate(100);
            same("too late", register.claim(11), 0);
            same("the claimed amount", register.part(0, 0, 5), 5);
        });
        holds(25, "If the aid is less than the claimed amount, the difference is paid back (whatever the window), and the claimed amount becomes the aid.",
                () -> {
                    for (int day : new int[] {5, 6, 9998, 9999}) {
                        AidRegister register = register("rules 100 0 0;donor a 99;declare a 0 9999;gift 5 7 0 a;");
                        register.claim(5);
                        register.refund(0, 1);
                        same("a penny back on day " + day, register.claim(day), -1);
                        same("the claimed amount", register.part(0, 0, 5), 6);
                        register.revoke(0, 5);
                        same("the rest back on day " + day, register.claim(day), -6);
                        same("the claimed amount", register.part(0, 0, 5), 0);
                        same("nothing more", register.claim(day), 0);
                    }
                });
    }

    private static void claim() {
        holds(25, "The claim is the sum of what is claimed and the sum of what is paid back.", () -> {
            AidRegister register = register("rules 100 9 0;donor a 99;donor b 99;declare a 0 99;declare b 0 99;split 0 9 0 a 1 b 2;gift 1 8 0 b;");
            register.claim(0);
            row("the first", what -> register.claimed(0, what), 0, 9, 0, 2, 0);
            register.refund(0, 7);
            register.claim(1);
            row("claimed and paid back", what -> register.claimed(1, what), 1, 8, 7, 1, 2);
            register.claim(2);
            row("neither", what -> register.claimed(2, what), 2, 0, 0, 0, 0);
        });
        holds(25, "Aid that changes afterwards (by refunds, declarations, revocations or settings) changes no claim that was made.", () -> {
            AidRegister register = register("rules 50 99 0;donor a 99;declare a 0 9;gift 0 80 0 a;gift 20 80 0 a;gift 5 80 0 a;");
            register.claim(20);
            register.refund(0, 1);
            register.declare(0, 10, 20);
            register.revoke(0, 3);
            register.setTaxLimit(0, 1);
            register.setRate(1);
            register.addGift(0, 0, 9, 0);
            row("the claim", what -> register.claimed(0, what), 20, 80, 0, 2, 0);
            row("the claimed amounts", gift -> register.part(gift, 0, 5), 40, 0, 40, 0);
        });
        holds(25, "Makes a claim. This is a change.", () -> {
            AidRegister register = register("rules 100 9 0;donor a 99;declare a 0 99;gift 5 7 0 a;");
            register.claim(4);
            register.claim(5);
            same("changes", register.count(9), 2);
            register.undo();
            same("the claimed amount", register.part(0, 0, 5), 0);
            same("claims", register.count(4), 1);
            same("again", register.claim(5), 7);
        });
        holds(25, "`day`: 0 to 9999", () -> {
            AidRegister register = register("rules 100 9999 0;donor a 99;declare a 0 9999;gift 0 7 0 a;gift 9999 8 0 a;");
            noArgument("claim", register::claim, -1, 10000, LEAST, GREATEST);
            same("day 0", register.claim(0), 7);
            same("day 9999", register.claim(9999), 8);
        });
        holds(25, "Returns what is claimed minus what is paid back.", () -> {
            AidRegister register = register("rules 100 9999 0;donor a 999999;donor b 9;declare a 0 9999;declare b 0 9999;gift 0 999999 0 a;"
                    + "gift 1 5 0 b;"
                    + "gift 1 3 0 b;");
            same("claimed alone", register.claim(0), 999999);
            register.refund(0, 5);
            same("as much as is paid back, and 3 more", register.claim(1), 3);
            register.refund(0, 999994);
            same("paid back alone", register.claim(1), -999994);
            AidRegister full = Fixtures.full();
            same("the greatest claim", full.claimed(0, 1), 59999940);
            full.undo();
            full.setRate(0);
            same("the greatest payment", full.claim(9999), -59999940);
        });
    }

    private static void refusedClaims() {
        holds(25, "Throws `IllegalArgumentException` if day is out of range", () -> {
            AidRegister register = new AidRegister();
            noArgument("claim", register::claim, -1, 10000);
            register.claim(5);
            noArgument("before the latest one", register::claim, -1);
            same("claims", register.count(4), 1);
        });
        holds(25, "Throws `IllegalStateException` if there are 20 claims, or the latest claim was made on a later day", () -> {
            AidRegister register = new AidRegister();
            for (int claim = 0; claim < 19; claim++) {
                register.claim(5);
                noState("a day before", () -> register.claim(4));
            }
            same("the 20th", register.claim(6), 0);
            noState("the 21st", () -> register.claim(6));
            noState("the 21st, later", () -> register.claim(9999));
            noState("the 21st, before", () -> register.claim(5));
            register.undo();
            noState("a day before the 19th", () -> register.claim(4));
            same("on the day of the 19th", register.claim(5), 0);
        });
    }

    // --- promises 26 and 27

    private static void claimed() {
        holds(26, "`what`: 0 its day, 1 the sum that was claimed, 2 the sum that was paid back, 3 the number of parts of which something was claimed,"
                + " 4 the number of parts of which something was paid back", () -> {
            AidRegister full = Fixtures.full();
            row("the first of twenty", what -> full.claimed(0, what), 9999, 59999940, 0, 60, 0);
            row("the last of twenty", what -> full.claimed(19, what), 9999, 0, 0, 0, 0);
            full.undo();
            full.setRate(0);
            full.claim(9999);
            row("all is paid back", what -> full.claimed(19, what), 9999, 0, 59999940, 0, 60);
            AidRegister register = register("rules 100 9 0;donor a 9;donor b 9;donor c 9;declare a 0 9;declare b 0 9;declare c 0 9;"
                    + "split 0 1 0 a 1 b 1;"
                    + "split 0 3 0 a 1 b 1 c 1;");
            register.claim(0);
            row("a part of nothing is not counted", what -> register.claimed(0, what), 0, 4, 0, 4, 0);
        });
        holds(26, "Throws `IndexOutOfBoundsException` if there is no such claim", () -> {
            AidRegister one = new AidRegister();
            one.claim(0);
            AidRegister full = Fixtures.full();
            noIndex("of none", claim -> new AidRegister().claimed(claim, 0), -1, 0, 1);
            noIndex("of one", claim -> one.claimed(claim, 0), -1, 1, LEAST, GREATEST, 858993460);
            noIndex("of twenty", claim -> full.claimed(claim, 0), -1, 20, LEAST, GREATEST);
            same("the last of twenty", full.claimed(19, 0), 9999);
            one.undo();
            noIndex("of an undone one", claim -> one.claimed(claim, 0), 0);
        });
        holds(26, "Throws `IllegalArgumentException` if what is out of range", () -> {
            AidRegister register = new AidRegister();
            register.claim(0);
            register.claim(0);
            noArgument("claimed", what -> register.claimed(0, what), -1, 5, LEAST, GREATEST);
            noArgument("claimed", what -> register.claimed(1, what), -1, 5);
        });
    }

    private static void claimable() {
        holds(27, "Forecasts a claim: what it would claim or pay back on a day, whatever the days of the claims made are.", () -> {
            AidRegister register = register("rules 50 10 0;donor a 99;declare a 0 9999;gift 5 8 0 a;gift 8 40 0 a;");
            while (register.count(4) < 20) {
                register.claim(9999);
            }
            int[] days = {0, 4, 5, 7, 8, 15, 16, 18, 19, 9999};
            int[] due = {0, 0, 4, 4, 24, 24, 20, 20, 0, 0};
            for (int i = 0; i < days.length; i++) {
                same("on day " + days[i], register.claimable(days[i], false), due[i]);
                same("back on day " + days[i], register.claimable(days[i], true), 0);
            }
            same("claims", register.count(4), 20);
        });
        holds(27, "`day`: 0 to 9999", () -> {
            AidRegister register = register("rules 100 9999 0;donor a 99;declare a 0 9999;gift 0 7 0 a;gift 9999 8 0 a;");
            same("day 0", register.claimable(0, false), 7);
            same("day 9998", register.claimable(9998, false), 7);
            same("day 9999", register.claimable(9999, false), 15);
            noArgument("to claim", day -> register.claimable(day, false), -1, 10000, LEAST, GREATEST);
            noArgument("to pay back", day -> register.claimable(day, true), -1, 10000, LEAST, GREATEST);
        });
        holds(27, "`back`: true for what it would pay back, false for what it would claim", () -> {
            AidRegister register = register("rules 100 5 0;donor a 99;donor b 99;declare a 0 99;declare b 0 99;gift 5 7 0 a;gift 9 8 0 b;");
            register.claim(5);
            register.refund(0, 1);
            int[] days = {4, 5, 8, 9, 14, 15, 9999};
            int[] claim = {0, 0, 0, 8, 8, 0, 0};
            int[] back = {0, 1, 1, 1, 1, 1, 1};
            for (int i = 0; i < days.length; i++) {
                same("to claim on day " + days[i], register.claimable(days[i], false), claim[i]);
                same("to pay back on day " + days[i], register.claimable(days[i], true), back[i]);
            }
            AidRegister full = Fixtures.full();
            full.setRate(0);
            same("all back", full.claimable(9999, true), 59999940);
        });
        holds(27, "Throws `IllegalArgumentException` if day is out of range", () -> {
            AidRegister register = new AidRegister();
            noArgument("to claim", day -> register.claimable(day, false), -1, 10000);
            noArgument("to pay back", day -> register.claimable(day, true), -1, 10000);
            same("day 0", register.claimable(0, true) + register.claimable(9999, true), 0);
        });
    }

    // --- promises 28 to 30

    private static void sums() {
        holds(28, "Returns what was claimed too much: the sum, over all parts, of the claimed amount minus the aid where the claimed amount is greater.",
                () -> {
                    AidRegister register = register("rules 100 99 0;donor a 99;donor b 99;declare a 0 99;declare b 0 99;split 5 9 0 a 1 b 2;"
                            + "gift 5 4 0 a;");
                    same("before a claim", register.overclaimed(), 0);
                    register.claim(5);
                    same("behind it", register.overclaimed(), 0);
                    register.refund(0, 1);
                    same("a penny", register.overclaimed(), 1);
                    register.addGift(0, 5, 50, 0);
                    same("what is open does not matter", register.overclaimed(), 1);
                    register.refund(0, 7);
                    same("of two parts", register.overclaimed(), 8);
                    register.claim(5);
                    same("behind another claim", register.overclaimed(), 0);
                    AidRegister full = Fixtures.full();
                    full.setRate(0);
                    same("the greatest sum", full.overclaimed(), 59999940);
                    same("of nothing", new AidRegister().overclaimed(), 0);
                });
        holds(29, "Returns the aid of all parts of all gifts.", () -> {
            same("of nothing", new AidRegister().totalAid(), 0);
            same("of a full register", Fixtures.full().totalAid(), 59999940);
            AidRegister register = register("rules 100 0 0;donor a 5;donor b 9;declare a 0 9;declare b 0 9;split 0 9 0 a 1 b 2;gift 0 9 0 a;"
                    + "cash 0 9 0;");
            same("of parts", register.totalAid(), 3 + 6 + 2);
        });
    }

    private static void lost() {
        String text = "rules 50 0 25;donor a 10;declare a 5 9;gift 5 8 0 a;gift 5 80 21 a;gift 4 6 0 a;gift 5 1 0 a;gift 6 18 0 a;gift 5 2 0 a;";
        holds(30, "Returns the aid that is lost by a reason: the sum, over all parts with this reason (see reason), of what is left of them * rate / 100"
                + " minus their aid.", () -> {
            AidRegister register = register(text);
            register.refund(5, 2);
            row("lost", reason -> register.lost(reason + 1), 0, 40, 3, 0, 3);
            register.setTaxLimit(0, 13);
            row("with a limit that is enough", reason -> register.lost(reason + 1), 0, 40, 3, 0, 0);
            register.setRate(0);
            row("at the rate 0", reason -> register.lost(reason + 1), 0, 0, 0, 0, 0);
            AidRegister full = Fixtures.full();
            for (int donor = 0; donor < 10; donor++) {
                full.setTaxLimit(donor, 0);
            }
            same("the greatest loss", full.lost(5), 59999940);
        });
        holds(30, "`reason`: 1 to 5", () -> {
            AidRegister register = register(text);
            register.setTaxLimit(0, 0);
            register.refund(0, 8);
            row("lost", reason -> register.lost(reason + 1), 0, 40, 3, 0, 9 + 1);
            noArgument("lost", register::lost, 0, 6, -1, LEAST, GREATEST);
        });
        holds(30, "Throws `IllegalArgumentException` if reason is out of range", () -> {
            AidRegister register = new AidRegister();
            noArgument("lost", register::lost, 0, 6);
            row("of nothing", reason -> register.lost(reason + 1), 0, 0, 0, 0, 0);
        });
    }

    // --- promises 31 to 33

    private static void mostUrgent() {
        holds(31, "Finds the gift that is most urgent: of the gifts with a part whose aid is greater than its claimed amount, the one whose last day to be"
                + " claimed (its day + the window, at most 9999) is the earliest one.", () -> {
            AidRegister register = register("rules 100 100 0;donor a 99;donor b 99;declare a 0 9999;declare b 0 9999;gift 9899 1 0 a;gift 9898 1 0 b;"
                    + "gift 0 1 1 a;cash 0 9 0;split 9897 1 0 b 1 a 1;");
            same("the earliest", register.mostUrgent(), 4);
            register.claim(9897);
            same("the next one", register.mostUrgent(), 1);
            register.claim(9898);
            same("the last one", register.mostUrgent(), 0);
            register.addGift(0, 9900, 1, 0);
            register.addGift(0, 9999, 1, 0);
            register.refund(0, 1);
            same("at most 9999", register.mostUrgent(), 5);
            register.claim(9900);
            same("on the last day", register.mostUrgent(), 6);
            register.refund(4, 1);
            register.claim(9999);
            same("none", register.mostUrgent(), -1);
            AidRegister rising = register("rules 100 100 0;donor a 99;declare a 0 9999;gift 5 1 0 a;gift 6 1 0 a;gift 7 1 0 a;");
            same("the first of all", rising.mostUrgent(), 0);
            rising.claim(5);
            same("the one behind it", rising.mostUrgent(), 1);
            AidRegister gone = register("rules 100 0 0;donor a 99;declare a 0 9999;gift 7 1 0 a;gift 6 1 0 a;");
            gone.claim(9999);
            same("too late to be claimed, but open", gone.mostUrgent(), 1);
        });
        holds(31, "Returns number of the gift, the smallest one on a tie; -1 if there is no such gift.", () -> {
            same("of nothing", new AidRegister().mostUrgent(), -1);
            AidRegister register = register("rules 100 9999 0;donor a 99;donor b 99;declare a 0 9999;cash 0 1 0;gift 5 1 0 b;gift 5 1 0 a;"
                    + "gift 4 1 0 a;"
                    + "gift 0 1 0 a;");
            same("day 4 + 9999 is 9999 too, day 0 + 9999 is", register.mostUrgent(), 2);
            register.claim(0);
            same("the others tie at 9999", register.mostUrgent(), 2);
            register.refund(2, 1);
            same("the next number", register.mostUrgent(), 3);
            register.refund(3, 1);
            same("none", register.mostUrgent(), -1);
            AidRegister full = Fixtures.full();
            same("all is claimed", full.mostUrgent(), -1);
            full.setRate(99);
            same("too much is claimed", full.mostUrgent(), -1);
        });
    }

    private static void limitedYears() {
        holds(32, "Returns the number of years in which the tax limit of a donor makes the aid less than the wishes.", () -> {
            AidRegister register = register("rules 100 0 0;donor a 10;donor b 9;declare a 0 9999;declare b 0 9999;gift 0 5 0 a;gift 364 5 0 a;"
                    + "gift 365 11 0 a;gift 729 9 0 a;gift 9999 11 0 a;split 730 18 0 a 1 b 1;");
            row("limitedYears", register::limitedYears, 2, 0);
            register.setTaxLimit(1, 8);
            row("b below its wish", register::limitedYears, 2, 1);
            register.setTaxLimit(0, 9);
            same("one less", register.limitedYears(0), 3);
            register.setTaxLimit(0, 8);
            same("two less", register.limitedYears(0), 4);
            register.setTaxLimit(0, 20);
            same("as much as the greatest year", register.limitedYears(0), 0);
            register.setTaxLimit(0, 19);
            same("a penny less", register.limitedYears(0), 1);
            register.setTaxLimit(0, 0);
            same("the limit 0", register.limitedYears(0), 4);
            register.setRate(0);
            same("without wishes", register.limitedYears(0), 0);
            AidRegister parts = register("rules 100 0 0;donor a 8;donor b 9;donor c 9;donor d 9;declare a 0 9999;split 0 9 0 b 1 c 1 d 1;"
                    + "gift 365 9 0 a;");
            row("one gift alone, behind one of three others", parts::limitedYears, 1, 0, 0, 0);
            AidRegister alone = register("rules 100 0 0;donor a 8;declare a 0 0;gift 0 9 0 a;");
            same("one gift in all", alone.limitedYears(0), 1);
            AidRegister years = register("donor a 0;declare a 0 9999;");
            for (int year = 0; year <= 27; year++) {
                years.addGift(0, year * 365, 4, 0);
                years.addGift(0, Math.min(9999, year * 365 + 364), 4, 0);
            }
            same("all years", years.limitedYears(0), 28);
        });
        needsDonor(32, "limitedYears", AidRegister::limitedYears);
    }

    private static void expiring() {
        holds(33, "Returns the aid that soon cannot be claimed any more: the sum, over the parts whose aid is greater than their claimed amount, of the"
                + " difference, if the last day to be claimed (the day of the gift + the window) is from one day to another one.", () -> {
            AidRegister register = register("rules 100 10 0;donor a 999;donor b 99;declare a 0 9999;declare b 0 9999;gift 0 1 0 a;"
                    + "split 5 6 0 a 1 b 2;"
                    + "gift 9989 8 0 a;gift 9990 16 0 a;gift 9999 32 0 a;gift 5 64 0 a;");
            int[][] fromToDue = {{0, 9999, 1 + 6 + 8 + 64}, {10, 10, 1}, {0, 9, 0}, {0, 10, 1}, {11, 14, 0}, {11, 15, 70}, {15, 15, 70}, {16, 9998,
                    0},
                {16, 9999, 8}, {9999, 9999, 8}, {0, 0, 0}};
            for (int[] v : fromToDue) {
                same("from " + v[0] + " to " + v[1], register.expiring(v[0], v[1]), v[2]);
            }
            register.claim(5);
            same("what is claimed does not expire", register.expiring(0, 9998), 0);
            register.refund(1, 1);
            register.setRate(99);
            same("nor what was claimed too much", register.expiring(0, 9998), 0);
            register.setRate(0);
            register.claim(5);
            register.setRate(100);
            same("what was paid back does", register.expiring(15, 15), 5 + 64);
            AidRegister full = Fixtures.full();
            same("of a full register, all claimed", full.expiring(0, 9999), 0);
            AidRegister sixty = register("rules 100 9999 0;donor a 999999;declare a 0 9999;" + "gift 0 9999 0 a;".repeat(50));
            for (int gift = 50; gift < 60; gift++) {
                sixty.addGift(0, gift / 59, 9999, 0);
            }
            same("of sixty gifts, on the last day", sixty.expiring(9999, 9999), 59 * 9999);
            same("before it", sixty.expiring(0, 9998), 0);
            same("nothing of nothing", new AidRegister().expiring(0, 9999), 0);
        });
        holds(33, "`from`: first day, 0 to 9999", () -> {
            AidRegister register = register("rules 100 0 0;donor a 99;declare a 0 9999;gift 0 1 0 a;gift 9999 2 0 a;");
            same("from 0", register.expiring(0, 9999), 3);
            same("from 1", register.expiring(1, 9999), 2);
            same("from 9999", register.expiring(9999, 9999), 2);
            noArgument("from", from -> register.expiring(from, 9999), -1, 10000, LEAST, GREATEST);
        });
        holds(33, "`to`: last day, from to 9999", () -> {
            AidRegister register = register("rules 100 0 0;donor a 99;declare a 0 9999;gift 0 1 0 a;gift 9999 2 0 a;");
            same("to 0", register.expiring(0, 0), 1);
            same("to 9998", register.expiring(0, 9998), 1);
            same("to from", register.expiring(9999, 9999), 2);
            noArgument("to", to -> register.expiring(5, to), 4, -1, 10000, LEAST, GREATEST);
        });
        holds(33, "Throws `IllegalArgumentException` if from or to is out of range", () -> {
            AidRegister register = new AidRegister();
            noArgument("both below", day -> register.expiring(day, day), -1, LEAST);
            noArgument("both above", day -> register.expiring(day, day), 10000, GREATEST);
            same("neither", register.expiring(0, 9999), 0);
        });
    }
}
