/** The sentences of the description that bind many calls: refused calls, and questions. */
final class BoundsOfAllCalls extends Bounds {
    private static final String FIRST_LISTED = "If several exceptions apply to a call, the one that is listed first is thrown.";
    private static final String CHANGES_NOTHING = "A method that throws changes nothing.";

    private interface Use {
        void of(AidRegister register) throws Exception;
    }

    private BoundsOfAllCalls() {
    }

    static void all() {
        firstListedOfQuestions();
        firstListedOfChanges();
        refusedQuestions();
        refusedChanges();
        refusedByFullRegister();
        questionsOfProperties();
        questionsOfSums();
    }

    // --- If several exceptions apply

    private static void firstListedOfQuestions() {
        AidRegister busy = Fixtures.busy();
        holds(8, FIRST_LISTED, () -> noIndex("declaration, what", what -> busy.declaration(2, what), -1, 4));
        holds(9, FIRST_LISTED, () -> noIndex("gift, what", what -> busy.gift(4, what), -1, 8));
        holds(10, FIRST_LISTED, () -> {
            noIndex("gift, what", what -> busy.part(4, 0, what), -1, 6);
            noIndex("part, what", what -> busy.part(0, 1, what), -1, 6);
        });
        holds(12, FIRST_LISTED, () -> {
            noIndex("donor, what", what -> busy.donor(2, what, 0), -1, 5);
            noIndex("donor, year", year -> busy.donor(-1, 0, year), -2, 28);
        });
        holds(15, FIRST_LISTED, () -> {
            noIndex("donor, first", first -> busy.coverage(2, first, 9999), -1, 10000);
            noIndex("donor, last", last -> busy.coverage(-1, 5, last), 4, 10000);
        });
        holds(26, FIRST_LISTED, () -> noIndex("claim, what", what -> busy.claimed(1, what), -1, 5));
        holds(39, FIRST_LISTED, () -> {
            noIndex("donor, first", first -> busy.gainOf(2, first, 9999), -1, 10000);
            noIndex("donor, last", last -> busy.gainOf(-1, 5, last), 4, 10000);
        });
    }

    private static void firstListedOfChanges() {
        holds(18, FIRST_LISTED, () -> {
            AidRegister full = Fixtures.full();
            noIndex("donor, days, 30 declarations", donor -> full.declare(donor, 1, 0), -1, 10);
            noIndex("donor, 30 declarations", donor -> full.declare(donor, 0, 0), -1, 10);
            noArgument("days, 30 declarations", first -> full.declare(9, first, 0), -1, 1, 10000);
            noState("30 declarations", () -> full.declare(9, 0, 0));
        });
        holds(19, FIRST_LISTED, () -> noIndex("declaration, day", day -> Fixtures.busy().revoke(2, day), -1, 10000));
        holds(20, FIRST_LISTED, () -> {
            AidRegister full = Fixtures.full();
            noIndex("donor, day, amount, benefit, 60 gifts", donor -> full.addGift(donor, -1, 0, -1), -2, 10);
            noIndex("donor, 60 gifts", donor -> full.addGift(donor, 0, 1, 0), -2, 10);
            noArgument("day, 60 gifts", day -> full.addGift(-1, day, 1, 0), -1, 10000);
            noArgument("amount, 60 gifts", amount -> full.addGift(9, 0, amount, 0), 0, 1000000);
            noArgument("benefit, 60 gifts", benefit -> full.addGift(9, 0, 1, benefit), -1, 1000000);
            noState("60 gifts", () -> full.addGift(-1, 0, 1, 0));
        });
        holds(21, FIRST_LISTED, () -> {
            AidRegister busy = Fixtures.busy();
            noIndex("gift, weight", weight -> busy.split(4, weight, 0, 1), 0, 10);
            noIndex("gift, other weight", weight -> busy.split(-1, 1, 0, weight), 0, 10);
            noIndex("donor, weight", weight -> busy.split(3, weight, 2, 1), 0, 10);
            noIndex("donor, other weight", weight -> busy.split(3, 1, -1, weight), 0, 10);
            noIndex("donor, a gift of two parts", donor -> busy.split(1, 1, donor, 1), -1, 2);
            noIndex("donor, a gift of nobody", donor -> busy.split(2, 1, donor, 1), -1, 2);
            noArgument("weight, a gift of two parts", weight -> busy.split(1, weight, 0, 1), 0, 10);
            noArgument("other weight, a gift of nobody", weight -> busy.split(2, 1, 0, weight), 0, 10);
            Check.noArgument("the same donor, a gift with a refund of which something is claimed", () -> busy.split(0, 1, 0, 1));
            noArgument("weight, a gift with a refund", weight -> busy.split(0, weight, 1, 1), 0, 10);
            noState("a gift with a refund", () -> busy.split(0, 1, 1, 1));
        });
        holds(22, FIRST_LISTED, () -> {
            AidRegister busy = Fixtures.busy();
            noIndex("gift, amount", amount -> busy.refund(4, amount), 0, 1000000);
            noArgument("amount, less is left", amount -> busy.refund(0, amount), 1000000, GREATEST);
            noState("less is left", () -> busy.refund(0, 999999));
        });
        holds(23, FIRST_LISTED, () -> noIndex("donor, limit", limit -> Fixtures.busy().setTaxLimit(2, limit), -1, 1000000));
        holds(25, FIRST_LISTED, () -> {
            AidRegister busy = Fixtures.busy();
            noArgument("day, a later claim", busy::claim, -1);
            noState("a later claim", () -> busy.claim(99));
            AidRegister full = Fixtures.full();
            noArgument("day, 20 claims", full::claim, -1, 10000);
            noState("20 claims", () -> full.claim(9999));
        });
    }

    // --- A method that throws changes nothing

    /** Calls that throw, on a register with something of everything: all of it must stay as it was. */
    private static void refused(int promise, Use... calls) {
        holds(promise, CHANGES_NOTHING, () -> leavesAll(true, calls));
    }

    private static void leavesAll(boolean throwing, Use... calls) throws Exception {
        AidRegister register = Fixtures.busy();
        for (int i = 0; i < calls.length; i++) {
            boolean thrown = false;
            try {
                calls[i].of(register);
            } catch (IndexOutOfBoundsException | IllegalArgumentException | IllegalStateException due) {
                thrown = true;
            }
            same("call " + i + " throws", thrown ? 1 : 0, throwing ? 1 : 0);
        }
        yes("the buffer", register.truncateInput(Fixtures.IN_BUFFER.length()) && !register.truncateInput(Fixtures.IN_BUFFER.length() + 1));
        same("all of it", Snapshot.whole(register), Snapshot.whole(Fixtures.busy()));
    }

    private static void refusedQuestions() {
        refused(7, r -> r.count(-1), r -> r.count(10));
        refused(8, r -> r.declaration(2, 0), r -> r.declaration(0, 4));
        refused(9, r -> r.gift(4, 0), r -> r.gift(0, 8));
        refused(10, r -> r.part(4, 0, 0), r -> r.part(0, 1, 0), r -> r.part(0, 0, 6));
        refused(11, r -> r.reason(4, 0), r -> r.reason(2, 0));
        refused(12, r -> r.donor(2, 0, 0), r -> r.donor(0, 5, 0), r -> r.donor(0, 0, 28));
        refused(13, r -> r.taxLimit(2));
        refused(14, r -> r.isDeclared(2, 0));
        refused(15, r -> r.coverage(2, 0, 0), r -> r.coverage(0, 1, 0));
        refused(16, r -> r.gap(2, 0, true));
        refused(17, r -> r.needless(2));
        refused(26, r -> r.claimed(1, 0), r -> r.claimed(0, 5));
        refused(27, r -> r.claimable(-1, false), r -> r.claimable(10000, true));
        refused(30, r -> r.lost(0), r -> r.lost(6));
        refused(32, r -> r.limitedYears(2));
        refused(33, r -> r.expiring(1, 0));
        refused(34, r -> r.useOf(2));
        refused(35, r -> r.benefitRoom(4));
        refused(36, r -> r.topDonor(5));
        refused(38, r -> r.longestSpan(2));
        refused(39, r -> r.gainOf(2, 0, 0), r -> r.gainOf(0, 1, 0));
        refused(41, r -> r.neededSpan(2, true));
        refused(42, r -> r.gainOfSplit(4, 0), r -> r.gainOfSplit(0, 2));
        refused(43, r -> r.sample(0, 0, 0), r -> r.sample(61, 0, 0));
        refused(44, r -> r.wrongIn(0, 0), r -> r.wrongIn(61, 0));
        refused(45, r -> r.estimate(0, 0), r -> r.estimate(61, 0));
        refused(48, r -> r.printStatement(-1), r -> r.printStatement(2));
    }

    private static void refusedChanges() {
        refused(18, r -> r.declare(2, 0, 0), r -> r.declare(0, 1, 0), r -> r.declare(0, 0, 10000));
        refused(19, r -> r.revoke(2, 0), r -> r.revoke(0, -1), r -> r.revoke(0, 10000));
        refused(20, r -> r.addGift(2, 0, 1, 0), r -> r.addGift(0, 10000, 1, 0), r -> r.addGift(0, 0, 0, 0), r -> r.addGift(0, 0, 1, -1));
        refused(21, r -> r.split(4, 1, 0, 1), r -> r.split(3, 1, 2, 1), r -> r.split(3, 0, 0, 1), r -> r.split(3, 1, 0, 10), r -> r.split(3, 1, 1, 1),
                r -> r.split(1, 1, 0, 1), r -> r.split(2, 1, 0, 1), r -> r.split(0, 1, 1, 1));
        refused(22, r -> r.refund(4, 1), r -> r.refund(0, 0), r -> r.refund(0, 41), r -> r.refund(1, 302), r -> r.refund(2, 501));
        refused(23, r -> r.setTaxLimit(2, 0), r -> r.setTaxLimit(0, -1), r -> r.setTaxLimit(0, 1000000));
        refused(24, r -> r.setRate(-1), r -> r.setRate(101));
        refused(25, r -> r.claim(-1), r -> r.claim(10000), r -> r.claim(99));
        holds(52, CHANGES_NOTHING, () -> {
            AidRegister register = register("donor a 5;gift 0 9 0 a;");
            register.setRate(50);
            register.printStatement(0);
            Texts.append(register, "donor b 6;");
            noState("restoreState", register::restoreState);
            same("undo", register.count(9), 1);
            same("the rate", register.count(5), 50);
            same("the output", Texts.output(register), "0:9+0\n");
            same("the rate before", register.undo() + register.count(5), 25);
            same("the buffer", register.loadRegister() + register.taxLimit(0), 6);
        });
    }

    /** A register that holds all it can: what it refuses leaves its sums, and what can be undone, as they were. */
    private static void fullStays(int promise, Use call) {
        holds(promise, "Throws `IllegalStateException` if there are " + (promise == 18 ? "30 declarations" : promise == 20 ? "60 gifts"
                : "20 claims, or the latest claim was made on a later day"), () -> {
            AidRegister full = Fixtures.full();
            noState("the call", () -> {
                call.of(full);
                return "something";
            });
            AidRegister untouched = Fixtures.full();
            same("the sums", Snapshot.brief(full), Snapshot.brief(untouched));
            same("undo", full.undo(), 9);
            untouched.undo();
            same("the sums behind an undo", Snapshot.brief(full), Snapshot.brief(untouched));
        });
    }

    private static void refusedByFullRegister() {
        fullStays(18, r -> r.declare(0, 0, 9999));
        fullStays(20, r -> r.addGift(0, 0, 1, 0));
        fullStays(25, r -> r.claim(9999));
    }

    // --- Questions change nothing

    private static void asks(int promise, Use... calls) {
        holds(promise, "Questions change nothing.", () -> leavesAll(false, calls));
    }

    private static void questionsOfProperties() {
        asks(5, AidRegister::errorCode);
        asks(6, AidRegister::errorOffset);
        asks(7, r -> r.count(0), r -> r.count(9));
        asks(8, r -> r.declaration(1, 2));
        asks(9, r -> r.gift(1, 7));
        asks(10, r -> r.part(1, 1, 5));
        asks(11, r -> r.reason(1, 0));
        asks(12, r -> r.donor(0, 2, -1));
        asks(13, r -> r.taxLimit(1));
        asks(14, r -> r.isDeclared(1, 60));
        asks(15, r -> r.coverage(1, 0, 9999));
        asks(16, r -> r.gap(1, 0, true), r -> r.gap(1, 5, false));
        asks(17, r -> r.needless(0));
        asks(26, r -> r.claimed(0, 1));
        asks(49, r -> r.outputByte(0), r -> r.outputByte(-1));
    }

    private static void questionsOfSums() {
        asks(27, r -> r.claimable(9999, true), r -> r.claimable(100, false));
        asks(28, AidRegister::overclaimed);
        asks(29, AidRegister::totalAid);
        asks(30, r -> r.lost(5));
        asks(31, AidRegister::mostUrgent);
        asks(32, r -> r.limitedYears(0));
        asks(33, r -> r.expiring(0, 9999));
        asks(34, r -> r.useOf(0), r -> r.useOf(1));
        asks(35, r -> r.benefitRoom(1));
        asks(36, r -> r.topDonor(0));
        asks(37, AidRegister::bestYear);
        asks(38, r -> r.longestSpan(0));
        asks(39, r -> r.gainOf(0, 0, 9999));
        asks(40, AidRegister::bestAsked);
        asks(41, r -> r.neededSpan(0, true));
        asks(42, r -> r.gainOfSplit(3, 0), r -> r.gainOfSplit(0, 1));
        asks(43, r -> r.sample(60, 5, 1));
        asks(44, r -> r.wrongIn(60, 5));
        asks(45, r -> r.estimate(60, 5));
        asks(46, AidRegister::aidShare);
        asks(47, AidRegister::meanGift);
    }
}
