/** Promises 25 to 33: claims, and what stands open. */
final class ClaimTests {
    private ClaimTests() {
    }

    static void all() {
        Check.test("promise 25: claim", ClaimTests::claiming);
        Check.test("promise 25: claim looks at the window", ClaimTests::windows);
        Check.test("promise 25: claim refuses", ClaimTests::refusedClaims);
        Check.test("promise 26: claimed", ClaimTests::propertiesOfClaims);
        Check.test("promise 27: claimable", ClaimTests::forecasts);
        Check.test("promise 28: overclaimed", ClaimTests::overclaims);
        Check.test("promise 29: totalAid", ClaimTests::totals);
        Check.test("promise 30: lost", ClaimTests::losses);
        Check.test("promise 31: mostUrgent", ClaimTests::urgency);
        Check.test("promise 32: limitedYears", ClaimTests::limits);
        Check.test("promise 33: expiring", ClaimTests::expiry);
    }

    private static void claiming() {
        AidRegister register = Texts.register("donor a 999;donor b 999;declare a 0 99;declare b 0 99;gift 10 100 0 a;"
                + "split 11 400 0 a 1 b 1;gift 12 40 0 b;");
        Check.same("before all gifts", register.claim(9), 0);
        Check.same("two gifts", register.claim(11), 125);
        Check.same("the same day again", register.claim(11), 0);
        register.refund(1, 100);
        register.refund(0, 100);
        Check.same("the claimed amount", register.part(0, 0, 5), 25);
        Check.same("the third gift, and what was too much", register.claim(12), 10 - 25 - 25);
        Check.same("the claimed amount then", register.part(0, 0, 5), 0);
        Check.same("of b", register.part(1, 1, 5), 25);
        Check.same("changes", register.count(9), 6);
        register.undo();
        Check.same("undone", register.part(1, 1, 5), 50);
    }

    private static void windows() {
        AidRegister register = Texts.register("rules 25 10 25;donor a 999;declare a 0 99;gift 10 100 0 a;gift 11 100 0 a;");
        Check.same("a day late for one", register.claim(21), 25);
        Check.same("which one", register.part(1, 0, 5), 25);
        register.revoke(0, 0);
        Check.same("paid back however late", register.claim(9999), -25);
        register.undo();
        register.undo();
        register.undo();
        Check.same("in time for both", register.claim(20), 50);
        register.addGift(0, 9, 4, 0);
        register.addGift(0, 10, 4, 0);
        Check.same("a penny in time, a penny late", register.claim(20), 1);
        Check.same("the penny", register.claimed(1, 1) + register.claimed(1, 3), 2);
    }

    private static void refusedClaims() {
        AidRegister register = Texts.register("donor a 999;");
        Check.noArgument("claim(-1)", () -> register.claim(-1));
        Check.noArgument("claim(10000)", () -> register.claim(10000));
        register.claim(5);
        Check.noState("a day before", () -> register.claim(4));
        for (int claim = 1; claim < 20; claim++) {
            Check.same("claim", register.claim(5), 0);
        }
        Check.noState("a 21st", () -> register.claim(6));
        Check.noArgument("a 21st on no day", () -> register.claim(-1));
        Check.same("claims", register.count(4), 20);
        register.undo();
        Check.same("a 20th again", register.claim(9999), 0);
    }

    private static void propertiesOfClaims() {
        AidRegister register = Texts.register("donor a 999;donor b 999;declare a 0 99;declare b 0 99;gift 10 100 0 a;"
                + "split 11 400 0 a 1 b 1;gift 12 40 0 b;");
        register.claim(11);
        register.refund(1, 100);
        register.refund(0, 100);
        register.claim(12);
        int[][] due = {{11, 125, 0, 3, 0}, {12, 10, 50, 1, 2}};
        for (int claim = 0; claim < 2; claim++) {
            for (int what = 0; what < 5; what++) {
                Check.same("claimed(" + claim + ", " + what + ")", register.claimed(claim, what), due[claim][what]);
            }
        }
        register.setRate(0);
        Check.same("the claim stays as it was", register.claimed(0, 1), 125);
        Check.noIndex("claimed(2, 9)", () -> register.claimed(2, 9));
        Check.noIndex("claimed(-1, 0)", () -> register.claimed(-1, 0));
        Check.noArgument("claimed(0, -1)", () -> register.claimed(0, -1));
        Check.noArgument("claimed(0, 5)", () -> register.claimed(0, 5));
    }

    private static void forecasts() {
        AidRegister register = Texts.register("rules 25 10 25;donor a 999;declare a 0 99;gift 10 100 0 a;gift 15 40 0 a;");
        Check.same("before all", register.claimable(9, false), 0);
        Check.same("one", register.claimable(10, false), 25);
        Check.same("both", register.claimable(20, false), 35);
        Check.same("one late", register.claimable(21, false), 10);
        Check.same("nothing back", register.claimable(20, true), 0);
        register.claim(20);
        register.setRate(10);
        Check.same("back", register.claimable(9999, true), 35 - 14);
        Check.same("back before the latest claim", register.claimable(10, true), 15);
        Check.same("no more", register.claimable(20, false), 0);
        for (int claim = 1; claim < 20; claim++) {
            register.claim(20);
        }
        register.setRate(25);
        Check.same("behind 20 claims", register.claimable(20, false), 21);
        Check.same("a question is no change", register.count(4), 20);
        Check.same("on day 0", register.claimable(0, true), 0);
        Check.noArgument("claimable(-1, true)", () -> register.claimable(-1, true));
        Check.noArgument("claimable(10000, false)", () -> register.claimable(10000, false));
    }

    private static void overclaims() {
        AidRegister register = Texts.register("donor a 999;donor b 999;declare a 0 99;declare b 0 99;gift 10 100 0 a;gift 10 80 0 b;");
        Check.same("nothing", register.overclaimed(), 0);
        register.claim(10);
        register.refund(0, 60);
        register.addGift(1, 10, 100, 0);
        Check.same("of one", register.overclaimed(), 15);
        register.revoke(1, 0);
        Check.same("of both", register.overclaimed(), 35);
        register.claim(10);
        Check.same("nothing any more", register.overclaimed(), 0);
    }

    private static void totals() {
        AidRegister register = Texts.register("donor a 30;donor b 999;declare a 0 99;declare b 0 99;gift 10 100 0 a;gift 10 80 0 a;"
                + "gift 500 80 0 b;split 50 80 0 b 1 a 1;cash 0 99999 0;");
        Check.same("totalAid", register.totalAid(), 30 + 10);
        register.declare(1, 500, 500);
        Check.same("totalAid", register.totalAid(), 30 + 10 + 20);
    }

    private static void losses() {
        AidRegister register = Texts.register("rules 50 9 25;donor a 60;donor b 10;declare a 5 9;declare b 5 9;"
                + "gift 5 100 0 a;gift 6 100 0 a;gift 7 101 0 a;gift 5 10 9 a;gift 4 30 0 a;gift 5 1 0 a;split 5 30 30 a 1 b 1;");
        register.refund(4, 10);
        int[] due = {0, 5 + 7 + 7, 10, 0, 40 + 50};
        for (int reason = 1; reason <= 5; reason++) {
            Check.same("lost(" + reason + ")", register.lost(reason), due[reason - 1]);
        }
        AidRegister first = Texts.register("donor a 9;gift 0 40 0 a;");
        Check.same("of the first part", first.lost(3), 10);
        Check.noArgument("lost(0)", () -> register.lost(0));
        Check.noArgument("lost(6)", () -> register.lost(6));
    }

    private static void urgency() {
        AidRegister register = Texts.register("rules 25 100 25;donor a 99;declare a 0 9999;gift 9950 4 0 a;gift 9940 4 0 a;"
                + "gift 20 3 0 a;gift 9900 4 0 a;gift 9898 4 0 a;gift 9898 8 0 a;");
        Check.same("the earliest", register.mostUrgent(), 4);
        register.refund(4, 4);
        Check.same("the next one", register.mostUrgent(), 5);
        register.refund(5, 8);
        Check.same("the last day is at most 9999", register.mostUrgent(), 0);
        register.claim(9940);
        Check.same("not claimed", register.mostUrgent(), 0);
        register.claim(9950);
        Check.same("all claimed", register.mostUrgent(), -1);
        register.setRate(50);
        Check.same("more to claim", register.mostUrgent(), 2);
    }

    private static void limits() {
        AidRegister register = Texts.register("donor a 25;donor b 99;declare a 0 9999;gift 0 100 0 a;gift 365 100 0 a;gift 366 4 0 a;"
                + "gift 800 200 0 a;gift 800 99 0 b;gift 801 300 0 a;");
        Check.same("limitedYears(0)", register.limitedYears(0), 2);
        Check.same("limitedYears(1)", register.limitedYears(1), 0);
        register.setTaxLimit(0, 24);
        Check.same("a lower limit", register.limitedYears(0), 3);
        register.setTaxLimit(0, 999);
        Check.same("a high limit", register.limitedYears(0), 0);
        AidRegister parts = Texts.register("donor a 99;donor b 9;declare a 0 9;declare b 0 9;split 5 80 0 a 1 b 1;");
        Check.same("by a second part", parts.limitedYears(1), 1);
        Check.same("not by that of another donor", parts.limitedYears(0), 0);
        Check.noIndex("limitedYears(2)", () -> register.limitedYears(2));
        Check.noIndex("limitedYears(-1)", () -> register.limitedYears(-1));
    }

    private static void expiry() {
        AidRegister register = Texts.register("rules 25 100 25;donor a 99;declare a 0 9999;gift 10 40 0 a;gift 20 80 0 a;"
                + "gift 9900 4 0 a;");
        Check.same("all in time", register.expiring(0, 9999), 30);
        Check.same("on the day", register.expiring(110, 110), 10);
        Check.same("before it", register.expiring(0, 109), 0);
        Check.same("to the day", register.expiring(111, 120), 20);
        Check.same("behind it", register.expiring(121, 9999), 0);
        register.claim(10);
        register.setRate(50);
        Check.same("the difference", register.expiring(110, 120), 10 + 40);
        Check.noArgument("expiring(-1, 0)", () -> register.expiring(-1, 0));
        Check.noArgument("expiring(2, 1)", () -> register.expiring(2, 1));
        Check.noArgument("expiring(0, 10000)", () -> register.expiring(0, 10000));
    }
}
