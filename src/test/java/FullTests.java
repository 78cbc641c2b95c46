/** A register that holds as many donors, declarations, gifts and claims as there can be. */
final class FullTests {
    private FullTests() {
    }

    static void all() {
        Check.test("promises 7 to 49: a full register", FullTests::questions);
        Check.test("promises 18 to 25: a full register", FullTests::changes);
    }

    /** Gifts of 9 pence: 46 of three donors, 13 of two and one of one donor, each part declared. */
    private static AidRegister full() {
        StringBuilder text = new StringBuilder("rules100 99 99;");
        for (int donor = 0; donor < 10; donor++) {
            text.append("donor ").append((char) ('q' + donor)).append("9;");
        }
        text.append("split0 9 0q1r1z1;".repeat(46));
        AidRegister register = Texts.register(text.toString());
        while (register.count(2) < 60) {
            register.addGift(9, 9999, 9, 0);
        }
        for (int gift = 46; gift < 59; gift++) {
            register.split(gift, 1, 8, 2);
        }
        while (register.count(1) < 30) {
            register.declare(register.count(1) % 10, 0, 9999);
        }
        for (int donor = 0; donor < 10; donor++) {
            register.setTaxLimit(donor, 100);
        }
        while (register.count(4) < 20) {
            register.claim(9999);
        }
        return register;
    }

    private static void questions() {
        AidRegister register = full();
        int[] counts = {10, 30, 60, 0, 20, 100, 99, 99, 0, 10};
        for (int what = 0; what < counts.length; what++) {
            Check.same("count(" + what + ")", register.count(what), counts[what]);
        }
        // In year 27 donor 9 has 13 * 3 + 9 pence, donor 8 has 13 * 6; in year 0 three donors have 46 * 3, limited to 100.
        Check.same("totalAid", register.totalAid(), 300 + 48 + 78);
        Check.same("the claimed amounts: year 0 is too long ago", register.claimed(0, 1), 48 + 78);
        Check.same("the last gift", register.gift(59, 6), 9);
        Check.same("the last part of two", register.part(58, 1, 5), 6);
        Check.same("reason", register.reason(58, 1), 0);
        Check.same("lost", register.lost(5), 3 * 38);
        Check.same("mostUrgent", register.mostUrgent(), 0);
        Check.same("expiring", register.expiring(99, 99), 300);
        Check.same("bestYear", register.bestYear(), 0);
        Check.same("topDonor", register.topDonor(0), 9);
        Check.same("limitedYears", register.limitedYears(9), 1);
        Check.same("needless", register.needless(9), 3);
        Check.same("coverage", register.coverage(9, 0, 9999), 10000);
        Check.same("gap", register.gap(9, 0, false), -1);
        Check.same("longestSpan", register.longestSpan(9), 10000);
        Check.same("useOf", register.useOf(29), 0);
        Check.same("gainOf", register.gainOf(9, 0, 9999), 0);
        Check.same("bestAsked", register.bestAsked(), -1);
        Check.same("neededSpan", register.neededSpan(9, true), -1);
        Check.same("gainOfSplit", register.gainOfSplit(59, 8), 0);
        Check.same("overclaimed", register.overclaimed(), 0);
        Check.same("claimable", register.claimable(99, false), 300);
        Check.same("the last claim", register.claimed(19, 0), 9999);
        Check.same("wrongIn", register.wrongIn(60, 1), 0);
        Check.same("aidShare", register.aidShare(), 426f / 540f);
        Check.same("meanGift", register.meanGift(), 9.0);
        Check.same("printStatement", register.printStatement(9), 33 * 6 + 6 + 12 * 6 + 14 * 9);
    }

    private static void changes() {
        AidRegister register = full();
        for (int declaration = 0; declaration < 30; declaration++) {
            Check.same("revoke", register.revoke(declaration, 5000), 5000);
        }
        Check.same("overclaimed", register.overclaimed(), 126);
        Check.same("wrongIn", register.wrongIn(60, 1), 27);
        Check.same("estimate", register.estimate(60, 1), 126.0);
        Check.same("bestAsked", register.bestAsked(), 8);
        Check.same("neededSpan", register.neededSpan(8, false), 9999);
        for (int gift = 0; gift < 60; gift++) {
            Check.same("refund", register.refund(gift, 9), 0);
        }
        Check.same("totalAid", register.totalAid(), 0);
        Check.same("meanGift", register.meanGift(), 0.0);
        Check.same("undo", register.undo(), 9);
        Check.noState("declare", () -> register.declare(9, 0, 0));
        Check.noState("addGift", () -> register.addGift(9, 0, 1, 0));
        Check.noState("claim", () -> register.claim(9999));
    }
}
