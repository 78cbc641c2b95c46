import java.util.Arrays;

/** A register of a charity that claims tax aid on gifts. The promises of each call stand in DOC.md. */
public final class AidRegister {
    public static final int NO_ERROR = 0;
    public static final int SYNTAX = 1;
    public static final int OUT_OF_RANGE = 2;
    public static final int BAD_NAME = 3;
    public static final int MISPLACED = 4;

    private static final int NONE = -1;
    private static final int LAST_DAY = 9999;
    private static final int DAYS_OF_YEAR = 365;
    private static final int LAST_YEAR = 27;
    private static final int ALL_YEARS = -1;
    private static final int MOST_MONEY = 999999;
    private static final int MOST_PERCENT = 100;
    private static final int MOST_WEIGHT = 9;

    private static final int MOST_INPUT = 900;
    private static final int BYTES_OF_APPEND = 20;
    private static final int MOST_DONORS = 10;
    private static final int MOST_DECLARATIONS = 30;
    private static final int MOST_GIFTS = 60;
    private static final int PARTS_OF_GIFT = 3;
    private static final int MOST_SLOTS = MOST_GIFTS * PARTS_OF_GIFT;
    private static final int MOST_CLAIMS = 20;
    private static final int MOST_UNDOS = 10;
    private static final int MOST_SAMPLE = 60;

    /** What is summed over parts: the numbers that donor and topDonor take. */
    private static final int LEFT = 0;
    private static final int WISH = 1;
    private static final int AID = 2;
    private static final int CLAIMED = 3;
    private static final int GIFTS = 4;

    private final byte[] input = new byte[MOST_INPUT];
    private int inputLength;
    private int error = NO_ERROR;
    private int errorPlace = NONE;
    private final Ledger now = new Ledger();
    /** What a question or a load tries out before, or without, becoming the register. */
    private final Ledger trial = new Ledger();
    private final Ledger saved = new Ledger();
    private boolean isSaved;
    /** A ring: the latest of the states before the changes stands before pastPlace. */
    private final Ledger[] past = new Ledger[MOST_UNDOS];
    private int pastPlace;
    private int pastCount;
    private final SetupReader reader = new SetupReader(input, trial);
    private final Drawing drawing = new Drawing();
    private final Printout output = new Printout();

    public AidRegister() {
    }

    public int appendInput(int a, int b, int c, int d, int e) {
        if (inputLength + BYTES_OF_APPEND > MOST_INPUT) {
            return -1;
        }
        appendBytes(a);
        appendBytes(b);
        appendBytes(c);
        appendBytes(d);
        appendBytes(e);
        return inputLength;
    }

    private void appendBytes(int four) {
        for (int shift = 24; shift >= 0; shift -= 8) {
            input[inputLength] = (byte) (four >> shift);
            inputLength++;
        }
    }

    public boolean truncateInput(int length) {
        if (length < 0 || length > inputLength) {
            return false;
        }
        inputLength = length;
        return true;
    }

    public int loadRegister() {
        reader.readAll(inputLength);
        inputLength = 0;
        error = reader.error;
        errorPlace = reader.errorPlace;
        if (error != NO_ERROR) {
            return -1;
        }
        trial.settle();
        now.become(trial);
        pastCount = 0;
        isSaved = false;
        return now.gifts.count;
    }

    public int errorCode() {
        return error;
    }

    public int errorOffset() {
        return errorPlace;
    }

    public int count(int what) throws IllegalArgumentException {
        switch (what) {
            case 0: return now.donorCount;
            case 1: return now.declarations.count;
            case 2: return now.gifts.count;
            case 3: return now.gifts.countWithoutParts();
            case 4: return now.claims.count;
            case 5: return now.rate;
            case 6: return now.window;
            case 7: return now.benefitLimit;
            case 8: return now.countSpoilt();
            case 9: return pastCount;
            default: throw new IllegalArgumentException("what is out of range");
        }
    }

    public int declaration(int declaration, int what) throws IndexOutOfBoundsException, IllegalArgumentException {
        needDeclaration(declaration);
        switch (what) {
            case 0: return now.declarations.donors[declaration];
            case 1: return now.declarations.firsts[declaration];
            case 2: return now.declarations.lasts[declaration];
            case 3: return now.declarations.daysOf(declaration);
            default: throw new IllegalArgumentException("what is out of range");
        }
    }

    public int gift(int gift, int what) throws IndexOutOfBoundsException, IllegalArgumentException {
        needGift(gift);
        switch (what) {
            case 0: return now.gifts.days[gift];
            case 1: return now.gifts.amounts[gift];
            case 2: return now.gifts.benefits[gift];
            case 3: return now.gifts.partCounts[gift];
            case 4: return now.gifts.leftOf(gift);
            case 5: return now.isSpoilt(gift) ? 1 : 0;
            case 6: return now.sumOfGift(gift, AID);
            case 7: return now.sumOfGift(gift, CLAIMED);
            default: throw new IllegalArgumentException("what is out of range");
        }
    }

    public int part(int gift, int part, int what) throws IndexOutOfBoundsException, IllegalArgumentException {
        needPart(gift, part);
        int slot = gift * PARTS_OF_GIFT + part;
        switch (what) {
            case 0: return now.gifts.partDonors[slot];
            case 1: return now.gifts.partAmounts[slot];
            case 2: return now.gifts.leftOfPart(slot);
            case 3: return now.wishes[slot];
            case 4: return now.aids[slot];
            case 5: return now.gifts.partClaims[slot];
            default: throw new IllegalArgumentException("what is out of range");
        }
    }

    public int reason(int gift, int part) throws IndexOutOfBoundsException {
        needPart(gift, part);
        return now.reasonOf(gift * PARTS_OF_GIFT + part);
    }

    public int donor(int donor, int what, int year) throws IndexOutOfBoundsException, IllegalArgumentException {
        needDonor(donor);
        needRange(what, LEFT, GIFTS);
        needRange(year, ALL_YEARS, LAST_YEAR);
        return now.sumOfDonor(donor, what, year);
    }

    public int taxLimit(int donor) throws IndexOutOfBoundsException {
        needDonor(donor);
        return now.taxLimits[donor];
    }

    public boolean isDeclared(int donor, int day) throws IndexOutOfBoundsException {
        needDonor(donor);
        return now.declarations.covers(donor, day);
    }

    public int coverage(int donor, int first, int last) throws IndexOutOfBoundsException, IllegalArgumentException {
        needDonor(donor);
        needSpan(first, last);
        return now.declarations.coveredWithin(donor, first, last);
    }

    public int gap(int donor, int index, boolean end) throws IndexOutOfBoundsException {
        needDonor(donor);
        return now.declarations.endOfGap(donor, index, end);
    }

    public int needless(int donor) throws IndexOutOfBoundsException {
        needDonor(donor);
        return now.declarations.countNeedless(donor);
    }

    public int declare(int donor, int first, int last)
            throws IndexOutOfBoundsException, IllegalArgumentException, IllegalStateException {
        needDonor(donor);
        needSpan(first, last);
        if (now.declarations.isFull()) {
            throw new IllegalStateException("there are 30 declarations");
        }
        remember();
        int declaration = now.declarations.add(donor, first, last);
        now.settle();
        return declaration;
    }

    public int revoke(int declaration, int day) throws IndexOutOfBoundsException, IllegalArgumentException {
        needDeclaration(declaration);
        needRange(day, 0, LAST_DAY);
        remember();
        int before = now.declarations.daysOf(declaration);
        now.declarations.cutFrom(declaration, day);
        now.settle();
        return before - now.declarations.daysOf(declaration);
    }

    public int addGift(int donor, int day, int amount, int benefit)
            throws IndexOutOfBoundsException, IllegalArgumentException, IllegalStateException {
        if (donor != NONE) {
            needDonor(donor);
        }
        needRange(day, 0, LAST_DAY);
        needRange(amount, 1, MOST_MONEY);
        needRange(benefit, 0, MOST_MONEY);
        if (now.gifts.isFull()) {
            throw new IllegalStateException("there are 60 gifts");
        }
        remember();
        int gift = now.gifts.add(day, amount, benefit);
        if (donor != NONE) {
            now.gifts.addPart(gift, donor, 1);
        }
        now.settle();
        return gift;
    }

    public int split(int gift, int weight, int other, int otherWeight)
            throws IndexOutOfBoundsException, IllegalArgumentException, IllegalStateException {
        needGift(gift);
        needDonor(other);
        needRange(weight, 1, MOST_WEIGHT);
        needRange(otherWeight, 1, MOST_WEIGHT);
        if (now.gifts.isAllOf(gift, other)) {
            throw new IllegalArgumentException("the other donor is the donor of the gift");
        }
        if (!now.gifts.isWhole(gift)) {
            throw new IllegalStateException("the gift cannot be split");
        }
        remember();
        now.gifts.divide(gift, weight, other, otherWeight);
        now.settle();
        return now.gifts.partAmounts[gift * PARTS_OF_GIFT + 1];
    }

    public int refund(int gift, int amount)
            throws IndexOutOfBoundsException, IllegalArgumentException, IllegalStateException {
        needGift(gift);
        needRange(amount, 1, MOST_MONEY);
        if (now.gifts.leftOf(gift) < amount) {
            throw new IllegalStateException("less is left of the gift");
        }
        remember();
        now.gifts.takeBack(gift, amount);
        now.settle();
        return now.gifts.leftOf(gift);
    }

    public int setTaxLimit(int donor, int limit) throws IndexOutOfBoundsException, IllegalArgumentException {
        needDonor(donor);
        needRange(limit, 0, MOST_MONEY);
        remember();
        int before = now.taxLimits[donor];
        now.taxLimits[donor] = limit;
        now.settle();
        return before;
    }

    public int setRate(int rate) throws IllegalArgumentException {
        needRange(rate, 0, MOST_PERCENT);
        remember();
        int before = now.rate;
        now.rate = rate;
        now.settle();
        return before;
    }

    public int claim(int day) throws IllegalArgumentException, IllegalStateException {
        needRange(day, 0, LAST_DAY);
        if (now.claims.isFull() || now.claims.latestDay() > day) {
            throw new IllegalStateException("no claim can be made on the day");
        }
        remember();
        return now.makeClaim(day);
    }

    public int claimed(int claim, int what) throws IndexOutOfBoundsException, IllegalArgumentException {
        if (claim < 0 || claim >= now.claims.count) {
            throw new IndexOutOfBoundsException("there is no such claim");
        }
        needRange(what, 0, Claims.COLUMNS - 1);
        return now.claims.cells[claim * Claims.COLUMNS + what];
    }

    public int claimable(int day, boolean back) throws IllegalArgumentException {
        needRange(day, 0, LAST_DAY);
        return now.forecast(day, back);
    }

    public int overclaimed() {
        int sum = 0;
        for (int slot = 0; slot < now.gifts.slotCount(); slot++) {
            sum += now.tooMuch(slot);
        }
        return sum;
    }

    public int totalAid() {
        return now.sumOfAll(AID);
    }

    public int lost(int reason) throws IllegalArgumentException {
        needRange(reason, 1, 5);
        return now.lostBy(reason);
    }

    public int mostUrgent() {
        return now.urgentGift();
    }

    public int limitedYears(int donor) throws IndexOutOfBoundsException {
        needDonor(donor);
        return now.countLimitedYears(donor);
    }

    public int expiring(int from, int to) throws IllegalArgumentException {
        needSpan(from, to);
        return now.openUntil(from, to);
    }

    public int useOf(int declaration) throws IndexOutOfBoundsException {
        needDeclaration(declaration);
        trial.become(now);
        trial.declarations.cutFrom(declaration, 0);
        trial.settle();
        return now.sumOfAll(AID) - trial.sumOfAll(AID);
    }

    public int benefitRoom(int gift) throws IndexOutOfBoundsException {
        needGift(gift);
        return now.benefitLimit * now.gifts.amounts[gift] / 100;
    }

    public int topDonor(int what) throws IllegalArgumentException {
        needRange(what, LEFT, GIFTS);
        int best = NONE;
        int most = NONE;
        for (int donor = 0; donor < now.donorCount; donor++) {
            int sum = now.sumOfDonor(donor, what, ALL_YEARS);
            if (sum > most) {
                most = sum;
                best = donor;
            }
        }
        return best;
    }

    public int bestYear() {
        return now.yearOfMostAid();
    }

    public int longestSpan(int donor) throws IndexOutOfBoundsException {
        needDonor(donor);
        return now.declarations.longestRun(donor);
    }

    public int gainOf(int donor, int first, int last) throws IndexOutOfBoundsException, IllegalArgumentException {
        needDonor(donor);
        needSpan(first, last);
        return now.growthWith(donor, first, last);
    }

    public int bestAsked() {
        int best = NONE;
        int most = 0;
        for (int donor = 0; donor < now.donorCount; donor++) {
            int growth = now.growthWith(donor, 0, LAST_DAY);
            if (growth > most) {
                most = growth;
                best = donor;
            }
        }
        return best;
    }

    public int neededSpan(int donor, boolean end) throws IndexOutOfBoundsException {
        needDonor(donor);
        return now.endOfNeed(donor, end);
    }

    public int gainOfSplit(int gift, int other) throws IndexOutOfBoundsException {
        needGift(gift);
        needDonor(other);
        if (now.gifts.isAllOf(gift, other) || !now.gifts.isWhole(gift)) {
            return 0;
        }
        trial.become(now);
        trial.gifts.divide(gift, 1, other, 1);
        trial.settle();
        return trial.sumOfAll(AID) - now.sumOfAll(AID);
    }

    public int sample(int size, int seed, int index) throws IllegalArgumentException {
        needRange(size, 1, MOST_SAMPLE);
        drawing.draw(now.gifts, size, seed);
        if (index < 0 || index >= drawing.drawnCount) {
            return -1;
        }
        return drawing.drawn[index];
    }

    public int wrongIn(int size, int seed) throws IllegalArgumentException {
        needRange(size, 1, MOST_SAMPLE);
        drawing.draw(now.gifts, size, seed);
        int wrong = 0;
        for (int place = 0; place < drawing.drawnCount; place++) {
            if (now.tooMuch(drawing.drawn[place]) > 0) {
                wrong++;
            }
        }
        return wrong;
    }

    public double estimate(int size, int seed) throws IllegalArgumentException {
        needRange(size, 1, MOST_SAMPLE);
        drawing.draw(now.gifts, size, seed);
        int tooMuch = 0;
        int claimedOfSample = 0;
        for (int place = 0; place < drawing.drawnCount; place++) {
            tooMuch += now.tooMuch(drawing.drawn[place]);
            claimedOfSample += now.gifts.partClaims[drawing.drawn[place]];
        }
        if (claimedOfSample == 0) {
            return 0.0;
        }
        return (double) tooMuch * (double) now.sumOfAll(CLAIMED) / (double) claimedOfSample;
    }

    public float aidShare() {
        int left = now.gifts.leftOfAll();
        if (left == 0) {
            return 0.0f;
        }
        return (float) now.sumOfAll(AID) / (float) left;
    }

    public double meanGift() {
        int gifts = now.gifts.countLeft();
        if (gifts == 0) {
            return 0.0;
        }
        return (double) now.gifts.leftOfAll() / (double) gifts;
    }

    public int printStatement(int donor) throws IndexOutOfBoundsException {
        needDonor(donor);
        output.clear();
        for (int slot = 0; slot < now.gifts.slotCount(); slot++) {
            if (now.gifts.isPartOf(slot, donor)) {
                output.putNumber(now.gifts.dayOfPart(slot));
                output.putByte(':');
                output.putNumber(now.gifts.leftOfPart(slot));
                output.putByte('+');
                output.putNumber(now.aids[slot]);
                output.putByte('\n');
            }
        }
        return output.length;
    }

    public int outputByte(int index) {
        if (index < 0 || index >= output.length) {
            return -1;
        }
        return output.bytes[index];
    }

    public int undo() {
        int place = (pastPlace + MOST_UNDOS - 1) % MOST_UNDOS;
        Ledger before = past[place];
        if (pastCount == 0 || before == null) {
            return -1;
        }
        now.become(before);
        pastPlace = place;
        pastCount--;
        return pastCount;
    }

    public int saveState() {
        saved.become(now);
        isSaved = true;
        return now.gifts.count;
    }

    public int restoreState() throws IllegalStateException {
        if (!isSaved) {
            throw new IllegalStateException("no state is saved");
        }
        now.become(saved);
        pastCount = 0;
        return now.gifts.count;
    }

    private void remember() {
        Ledger before = past[pastPlace];
        if (before == null) {
            before = new Ledger();
            past[pastPlace] = before;
        }
        before.become(now);
        pastPlace = (pastPlace + 1) % MOST_UNDOS;
        pastCount = Math.min(pastCount + 1, MOST_UNDOS);
    }

    private void needDonor(int donor) {
        if (donor < 0 || donor >= now.donorCount) {
            throw new IndexOutOfBoundsException("there is no such donor");
        }
    }

    private void needDeclaration(int declaration) {
        if (declaration < 0 || declaration >= now.declarations.count) {
            throw new IndexOutOfBoundsException("there is no such declaration");
        }
    }

    private void needGift(int gift) {
        if (gift < 0 || gift >= now.gifts.count) {
            throw new IndexOutOfBoundsException("there is no such gift");
        }
    }

    private void needPart(int gift, int part) {
        needGift(gift);
        if (part < 0 || part >= now.gifts.partCounts[gift]) {
            throw new IndexOutOfBoundsException("there is no such part");
        }
    }

    private static void needSpan(int first, int last) {
        needRange(first, 0, LAST_DAY);
        needRange(last, first, LAST_DAY);
    }

    private static void needRange(int value, int least, int most) {
        if (value < least || value > most) {
            throw new IllegalArgumentException("a value is out of range");
        }
    }

    private static void copyRow(int[] from, int[] to) {
        System.arraycopy(from, 0, to, 0, Math.min(from.length, to.length));
    }

    /** The declarations of all donors, in the order in which they were told or made. */
    private static final class Declarations {
        int count;
        final int[] donors = new int[MOST_DECLARATIONS];
        final int[] firsts = new int[MOST_DECLARATIONS];
        /** Before the first day if the declaration is in force on no day any more. */
        final int[] lasts = new int[MOST_DECLARATIONS];

        void become(Declarations other) {
            count = other.count;
            copyRow(other.donors, donors);
            copyRow(other.firsts, firsts);
            copyRow(other.lasts, lasts);
        }

        boolean isFull() {
            return count >= MOST_DECLARATIONS;
        }

        int add(int donor, int first, int last) {
            if (isFull()) {
                return NONE;
            }
            donors[count] = donor;
            firsts[count] = first;
            lasts[count] = last;
            count++;
            return count - 1;
        }

        void cutFrom(int declaration, int day) {
            lasts[declaration] = Math.min(lasts[declaration], day - 1);
        }

        int daysOf(int declaration) {
            return Math.max(0, lasts[declaration] - firsts[declaration] + 1);
        }

        boolean isOn(int declaration, int donor, int day) {
            return donors[declaration] == donor && firsts[declaration] <= day && day <= lasts[declaration];
        }

        boolean covers(int donor, int day) {
            for (int declaration = 0; declaration < count; declaration++) {
                if (isOn(declaration, donor, day)) {
                    return true;
                }
            }
            return false;
        }

        /** The first day, from a day on, that is not covered; a declaration may be left out of account. */
        int openFrom(int donor, int day, int leftOut) {
            int open = day;
            boolean moved = true;
            // A declaration moves the day at most once, so there are not more rounds than declarations.
            for (int round = 0; round < count && moved; round++) {
                moved = false;
                for (int declaration = 0; declaration < count; declaration++) {
                    if (declaration != leftOut && isOn(declaration, donor, open)) {
                        open = lasts[declaration] + 1;
                        moved = true;
                    }
                }
            }
            return open;
        }

        /** The first day, from a day on, that is covered; the day after all days if there is none. */
        int coveredFrom(int donor, int day) {
            int covered = LAST_DAY + 1;
            for (int declaration = 0; declaration < count; declaration++) {
                int start = Math.max(day, firsts[declaration]);
                if (isOn(declaration, donor, start)) {
                    covered = Math.min(covered, start);
                }
            }
            return covered;
        }

        int coveredWithin(int donor, int first, int last) {
            int days = 0;
            int start = coveredFrom(donor, first);
            for (int run = 0; run < count && start <= last; run++) {
                int stop = openFrom(donor, start, NONE);
                days += Math.min(stop, last + 1) - start;
                start = coveredFrom(donor, stop);
            }
            return days;
        }

        int endOfGap(int donor, int index, boolean end) {
            int start = openFrom(donor, 0, NONE);
            for (int gap = 0; gap <= count && start <= LAST_DAY; gap++) {
                int stop = coveredFrom(donor, start);
                if (gap == index) {
                    return end ? stop - 1 : start;
                }
                start = openFrom(donor, stop, NONE);
            }
            return NONE;
        }

        int longestRun(int donor) {
            int longest = 0;
            int start = coveredFrom(donor, 0);
            for (int run = 0; run < count && start <= LAST_DAY; run++) {
                int stop = openFrom(donor, start, NONE);
                longest = Math.max(longest, stop - start);
                start = coveredFrom(donor, stop);
            }
            return longest;
        }

        int countNeedless(int donor) {
            int needless = 0;
            for (int declaration = 0; declaration < count; declaration++) {
                if (donors[declaration] == donor
                        && openFrom(donor, firsts[declaration], declaration) > lasts[declaration]) {
                    needless++;
                }
            }
            return needless;
        }
    }

    /** The gifts and their parts; the parts of a gift stand in the slots from 3 * its number on. */
    private static final class Gifts {
        int count;
        final int[] days = new int[MOST_GIFTS];
        final int[] amounts = new int[MOST_GIFTS];
        final int[] benefits = new int[MOST_GIFTS];
        final int[] refunds = new int[MOST_GIFTS];
        final int[] partCounts = new int[MOST_GIFTS];
        /** The numbers of the gifts by their days, on a tie by their numbers. */
        final int[] byDay = new int[MOST_GIFTS];
        final int[] partDonors = new int[MOST_SLOTS];
        final int[] partWeights = new int[MOST_SLOTS];
        final int[] partAmounts = new int[MOST_SLOTS];
        final int[] partRefunds = new int[MOST_SLOTS];
        final int[] partClaims = new int[MOST_SLOTS];

        void become(Gifts other) {
            count = other.count;
            copyRow(other.days, days);
            copyRow(other.amounts, amounts);
            copyRow(other.benefits, benefits);
            copyRow(other.refunds, refunds);
            copyRow(other.partCounts, partCounts);
            copyRow(other.byDay, byDay);
            copyRow(other.partDonors, partDonors);
            copyRow(other.partWeights, partWeights);
            copyRow(other.partAmounts, partAmounts);
            copyRow(other.partRefunds, partRefunds);
            copyRow(other.partClaims, partClaims);
        }

        boolean isFull() {
            return count >= MOST_GIFTS;
        }

        /** Adds a gift of nobody known; addPart gives it its donors. */
        int add(int day, int amount, int benefit) {
            if (isFull()) {
                return NONE;
            }
            int gift = count;
            days[gift] = day;
            amounts[gift] = amount;
            benefits[gift] = benefit;
            refunds[gift] = 0;
            partCounts[gift] = 0;
            int place = gift;
            while (place > 0 && days[byDay[place - 1]] > day) {
                byDay[place] = byDay[place - 1];
                place--;
            }
            byDay[place] = gift;
            count++;
            return gift;
        }

        void addPart(int gift, int donor, int weight) {
            if (gift < 0 || gift >= count || partCounts[gift] >= PARTS_OF_GIFT) {
                return;
            }
            int slot = gift * PARTS_OF_GIFT + partCounts[gift];
            partDonors[slot] = donor;
            partWeights[slot] = weight;
            partRefunds[slot] = 0;
            partClaims[slot] = 0;
            partCounts[gift]++;
            shareOut(gift);
        }

        void shareOut(int gift) {
            int first = gift * PARTS_OF_GIFT;
            int weights = 0;
            for (int part = 0; part < partCounts[gift]; part++) {
                weights += partWeights[first + part];
            }
            if (weights <= 0) {
                return;
            }
            int rest = amounts[gift];
            for (int part = 0; part < partCounts[gift]; part++) {
                partAmounts[first + part] = amounts[gift] * partWeights[first + part] / weights;
                rest -= partAmounts[first + part];
            }
            for (int part = 0; part < partCounts[gift] && part < rest; part++) {
                partAmounts[first + part]++;
            }
        }

        void divide(int gift, int weight, int other, int otherWeight) {
            partWeights[gift * PARTS_OF_GIFT] = weight;
            addPart(gift, other, otherWeight);
        }

        void takeBack(int gift, int amount) {
            refunds[gift] += amount;
            int rest = amount;
            for (int part = partCounts[gift] - 1; part >= 0; part--) {
                int slot = gift * PARTS_OF_GIFT + part;
                int taken = Math.min(rest, leftOfPart(slot));
                partRefunds[slot] += taken;
                rest -= taken;
            }
        }

        /** Tells whether one donor gave it all, nothing was refunded and nothing of it is claimed. */
        boolean isWhole(int gift) {
            return partCounts[gift] == 1 && refunds[gift] == 0 && partClaims[gift * PARTS_OF_GIFT] == 0;
        }

        boolean isAllOf(int gift, int donor) {
            return partCounts[gift] == 1 && partDonors[gift * PARTS_OF_GIFT] == donor;
        }

        boolean hasDonor(int gift, int donor) {
            for (int part = 0; part < partCounts[gift]; part++) {
                if (partDonors[gift * PARTS_OF_GIFT + part] == donor) {
                    return true;
                }
            }
            return false;
        }

        int slotCount() {
            return count * PARTS_OF_GIFT;
        }

        boolean isPart(int slot) {
            return slot % PARTS_OF_GIFT < partCounts[slot / PARTS_OF_GIFT];
        }

        boolean isPartOf(int slot, int donor) {
            return isPart(slot) && partDonors[slot] == donor;
        }

        int dayOfPart(int slot) {
            return days[slot / PARTS_OF_GIFT];
        }

        int yearOf(int gift) {
            return days[gift] / DAYS_OF_YEAR;
        }

        int leftOf(int gift) {
            return amounts[gift] - refunds[gift];
        }

        int leftOfPart(int slot) {
            return partAmounts[slot] - partRefunds[slot];
        }

        int leftOfAll() {
            int sum = 0;
            for (int gift = 0; gift < count; gift++) {
                sum += leftOf(gift);
            }
            return sum;
        }

        int countLeft() {
            int found = 0;
            for (int gift = 0; gift < count; gift++) {
                if (leftOf(gift) > 0) {
                    found++;
                }
            }
            return found;
        }

        int countWithoutParts() {
            int found = 0;
            for (int gift = 0; gift < count; gift++) {
                if (partCounts[gift] == 0) {
                    found++;
                }
            }
            return found;
        }
    }

    /** The claims, a row each: the day, then sums and numbers of parts, claimed and paid back. */
    private static final class Claims {
        static final int COLUMNS = 5;
        int count;
        final int[] cells = new int[MOST_CLAIMS * COLUMNS];

        void become(Claims other) {
            count = other.count;
            copyRow(other.cells, cells);
        }

        boolean isFull() {
            return count >= MOST_CLAIMS;
        }

        int latestDay() {
            return count == 0 ? 0 : cells[(count - 1) * COLUMNS];
        }

        /** Begins a claim; the entries that follow belong to it. */
        void begin(int day) {
            if (isFull()) {
                return;
            }
            int row = count * COLUMNS;
            cells[row] = day;
            for (int column = 1; column < COLUMNS; column++) {
                cells[row + column] = 0;
            }
            count++;
        }

        void enter(int difference) {
            if (count == 0) {
                return;
            }
            int row = (count - 1) * COLUMNS;
            if (difference > 0) {
                cells[row + 1] += difference;
                cells[row + 3]++;
            } else if (difference < 0) {
                cells[row + 2] -= difference;
                cells[row + 4]++;
            }
        }

        int latestBalance() {
            if (count == 0) {
                return 0;
            }
            int row = (count - 1) * COLUMNS;
            return cells[row + 1] - cells[row + 2];
        }
    }

    /** All that is saved and undone, with the wishes and the aid that follow from it. */
    private static final class Ledger {
        private static final int USUAL_RATE = 25;
        private static final int USUAL_WINDOW = 1460;
        private static final int USUAL_BENEFIT_LIMIT = 25;

        int rate;
        int window;
        int benefitLimit;
        int donorCount;
        final int[] taxLimits = new int[MOST_DONORS];
        final Declarations declarations = new Declarations();
        final Gifts gifts = new Gifts();
        final Claims claims = new Claims();
        /** What the wishes of the parts would be if all days were declared. */
        final int[] openWishes = new int[MOST_SLOTS];
        final int[] wishes = new int[MOST_SLOTS];
        final int[] aids = new int[MOST_SLOTS];
        /** How much of the tax limits the parts settled so far use up in the present year. */
        private final int[] usedOfLimits = new int[MOST_DONORS];

        Ledger() {
            clear();
        }

        void become(Ledger other) {
            rate = other.rate;
            window = other.window;
            benefitLimit = other.benefitLimit;
            donorCount = other.donorCount;
            copyRow(other.taxLimits, taxLimits);
            declarations.become(other.declarations);
            gifts.become(other.gifts);
            claims.become(other.claims);
            copyRow(other.openWishes, openWishes);
            copyRow(other.wishes, wishes);
            copyRow(other.aids, aids);
        }

        void clear() {
            rate = USUAL_RATE;
            window = USUAL_WINDOW;
            benefitLimit = USUAL_BENEFIT_LIMIT;
            donorCount = 0;
            declarations.count = 0;
            gifts.count = 0;
            claims.count = 0;
        }

        void addDonor(int taxLimit) {
            if (donorCount < MOST_DONORS) {
                taxLimits[donorCount] = taxLimit;
                donorCount++;
            }
        }

        /** Finds all wishes and aid anew: every change but a claim can move them. */
        void settle() {
            int year = NONE;
            for (int place = 0; place < gifts.count; place++) {
                int gift = gifts.byDay[place];
                if (gifts.yearOf(gift) != year) {
                    year = gifts.yearOf(gift);
                    Arrays.fill(usedOfLimits, 0);
                }
                for (int part = 0; part < gifts.partCounts[gift]; part++) {
                    settlePart(gift, gift * PARTS_OF_GIFT + part);
                }
            }
        }

        private void settlePart(int gift, int slot) {
            int donor = gifts.partDonors[slot];
            openWishes[slot] = isSpoilt(gift) ? 0 : fullAid(slot);
            wishes[slot] = declarations.covers(donor, gifts.days[gift]) ? openWishes[slot] : 0;
            aids[slot] = Math.min(wishes[slot], taxLimits[donor] - usedOfLimits[donor]);
            usedOfLimits[donor] += aids[slot];
        }

        int fullAid(int slot) {
            return gifts.leftOfPart(slot) * rate / 100;
        }

        boolean isSpoilt(int gift) {
            return gifts.benefits[gift] * 100 > benefitLimit * gifts.amounts[gift];
        }

        int countSpoilt() {
            int found = 0;
            for (int gift = 0; gift < gifts.count; gift++) {
                if (isSpoilt(gift)) {
                    found++;
                }
            }
            return found;
        }

        int measure(int slot, int what) {
            switch (what) {
                case LEFT: return gifts.leftOfPart(slot);
                case WISH: return wishes[slot];
                case AID: return aids[slot];
                case CLAIMED: return gifts.partClaims[slot];
                default: return 1;
            }
        }

        int sumOfGift(int gift, int what) {
            int sum = 0;
            for (int part = 0; part < gifts.partCounts[gift]; part++) {
                sum += measure(gift * PARTS_OF_GIFT + part, what);
            }
            return sum;
        }

        int sumOfAll(int what) {
            int sum = 0;
            for (int gift = 0; gift < gifts.count; gift++) {
                sum += sumOfGift(gift, what);
            }
            return sum;
        }

        int sumOfDonor(int donor, int what, int year) {
            int sum = 0;
            for (int slot = 0; slot < gifts.slotCount(); slot++) {
                boolean inYear = year == ALL_YEARS || gifts.yearOf(slot / PARTS_OF_GIFT) == year;
                if (inYear && gifts.isPartOf(slot, donor)) {
                    sum += measure(slot, what);
                }
            }
            return sum;
        }

        int reasonOf(int slot) {
            int full = fullAid(slot);
            if (full != 0 && aids[slot] == full) {
                return 0;
            }
            if (gifts.leftOfPart(slot) == 0) {
                return 1;
            }
            if (isSpoilt(slot / PARTS_OF_GIFT)) {
                return 2;
            }
            if (!declarations.covers(gifts.partDonors[slot], gifts.dayOfPart(slot))) {
                return 3;
            }
            return wishes[slot] == 0 ? 4 : 5;
        }

        int lostBy(int reason) {
            int sum = 0;
            for (int slot = 0; slot < gifts.slotCount(); slot++) {
                if (gifts.isPart(slot) && reasonOf(slot) == reason) {
                    sum += fullAid(slot) - aids[slot];
                }
            }
            return sum;
        }

        /** What a claim on a day would add to the claimed amount of a part; less than 0 if it pays back. */
        int differenceOn(int slot, int day) {
            int age = day - gifts.dayOfPart(slot);
            if (!gifts.isPart(slot) || age < 0) {
                return 0;
            }
            int difference = aids[slot] - gifts.partClaims[slot];
            return difference > 0 && age > window ? 0 : difference;
        }

        int makeClaim(int day) {
            claims.begin(day);
            for (int slot = 0; slot < gifts.slotCount(); slot++) {
                int difference = differenceOn(slot, day);
                claims.enter(difference);
                gifts.partClaims[slot] += difference;
            }
            return claims.latestBalance();
        }

        int forecast(int day, boolean back) {
            int sum = 0;
            for (int slot = 0; slot < gifts.slotCount(); slot++) {
                int difference = differenceOn(slot, day);
                sum += Math.max(0, back ? -difference : difference);
            }
            return sum;
        }

        int tooMuch(int slot) {
            return gifts.isPart(slot) ? Math.max(0, gifts.partClaims[slot] - aids[slot]) : 0;
        }

        int unclaimed(int slot) {
            return gifts.isPart(slot) ? Math.max(0, aids[slot] - gifts.partClaims[slot]) : 0;
        }

        int unclaimedOfGift(int gift) {
            int sum = 0;
            for (int part = 0; part < PARTS_OF_GIFT; part++) {
                sum += unclaimed(gift * PARTS_OF_GIFT + part);
            }
            return sum;
        }

        int urgentGift() {
            int urgent = NONE;
            int earliest = LAST_DAY + 1;
            for (int gift = 0; gift < gifts.count; gift++) {
                int lastDay = Math.min(LAST_DAY, gifts.days[gift] + window);
                if (lastDay < earliest && unclaimedOfGift(gift) > 0) {
                    earliest = lastDay;
                    urgent = gift;
                }
            }
            return urgent;
        }

        int openUntil(int from, int to) {
            int sum = 0;
            for (int gift = 0; gift < gifts.count; gift++) {
                int lastDay = gifts.days[gift] + window;
                if (from <= lastDay && lastDay <= to) {
                    sum += unclaimedOfGift(gift);
                }
            }
            return sum;
        }

        int countLimitedYears(int donor) {
            int years = 0;
            int counted = NONE;
            for (int place = 0; place < gifts.count; place++) {
                int gift = gifts.byDay[place];
                if (gifts.yearOf(gift) != counted && isLimited(gift, donor)) {
                    counted = gifts.yearOf(gift);
                    years++;
                }
            }
            return years;
        }

        private boolean isLimited(int gift, int donor) {
            for (int part = 0; part < gifts.partCounts[gift]; part++) {
                int slot = gift * PARTS_OF_GIFT + part;
                if (gifts.partDonors[slot] == donor && aids[slot] < wishes[slot]) {
                    return true;
                }
            }
            return false;
        }

        int yearOfMostAid() {
            int best = NONE;
            int most = 0;
            int year = NONE;
            int aid = 0;
            for (int place = 0; place < gifts.count; place++) {
                int gift = gifts.byDay[place];
                if (gifts.yearOf(gift) != year) {
                    year = gifts.yearOf(gift);
                    aid = 0;
                }
                aid += sumOfGift(gift, AID);
                if (aid > most) {
                    most = aid;
                    best = year;
                }
            }
            return best;
        }

        int growthWith(int donor, int first, int last) {
            return aidWith(donor, first, last) - sumOfDonor(donor, AID, ALL_YEARS);
        }

        /** The aid of a donor if the days from first to last were declared too. */
        private int aidWith(int donor, int first, int last) {
            int aid = 0;
            int aidOfYear = 0;
            int year = NONE;
            for (int place = 0; place < gifts.count; place++) {
                int gift = gifts.byDay[place];
                if (gifts.yearOf(gift) != year) {
                    year = gifts.yearOf(gift);
                    aid += aidOfYear;
                    aidOfYear = 0;
                }
                boolean inSpan = first <= gifts.days[gift] && gifts.days[gift] <= last;
                aidOfYear = Math.min(taxLimits[donor], aidOfYear + wishOf(gift, donor, inSpan));
            }
            return aid + aidOfYear;
        }

        private int wishOf(int gift, int donor, boolean asDeclared) {
            for (int part = 0; part < gifts.partCounts[gift]; part++) {
                int slot = gift * PARTS_OF_GIFT + part;
                if (gifts.partDonors[slot] == donor) {
                    return asDeclared ? openWishes[slot] : wishes[slot];
                }
            }
            return 0;
        }

        /** An end of the shortest span that brings all a donor could bring. Its ends are days of gifts. */
        int endOfNeed(int donor, boolean end) {
            int goal = aidWith(donor, 0, LAST_DAY);
            if (goal == sumOfDonor(donor, AID, ALL_YEARS)) {
                return NONE;
            }
            int first = 0;
            int last = LAST_DAY;
            int to = 0;
            for (int from = 0; from < gifts.count; from++) {
                int start = gifts.days[gifts.byDay[from]];
                // A later start never needs an earlier stop, so the stops are gone through but once.
                while (to < gifts.count && aidWith(donor, start, gifts.days[gifts.byDay[to]]) < goal) {
                    to++;
                }
                if (to < gifts.count && gifts.days[gifts.byDay[to]] - start < last - first) {
                    first = start;
                    last = gifts.days[gifts.byDay[to]];
                }
            }
            return end ? last : first;
        }
    }

    /** Reads a setup text into a ledger. After the first error it goes on, but keeps that error alone. */
    private static final class SetupReader {
        private static final int END = 0;
        private static final int WORD = 1;
        private static final int NUMBER = 2;
        private static final int SEMICOLON = 3;
        private static final int STRAY = 4;
        private static final int MOST_DIGITS = 6;
        private static final int MOST_LETTERS_OF_NAME = 6;
        private static final int MOST_LETTERS = 7;

        /** The first words of statements, and no word, as packedWord answers them. */
        private static final long NO_WORD = 0L;
        private static final long DONOR = 0x646f6e6f72L;
        private static final long DECLARE = 0x6465636c617265L;
        private static final long GIFT = 0x67696674L;
        private static final long SPLIT = 0x73706c6974L;
        private static final long CASH = 0x63617368L;
        private static final long RULES = 0x72756c6573L;

        int error;
        int errorPlace;
        private final byte[] text;
        private final Ledger target;
        private int length;
        /** The present token stands from start to before at. */
        private int start;
        private int at;
        private int kind;
        private long word;
        private boolean rulesTold;
        private final long[] names = new long[MOST_DONORS];

        SetupReader(byte[] text, Ledger target) {
            this.text = text;
            this.target = target;
        }

        void readAll(int textLength) {
            length = Math.min(textLength, text.length);
            at = 0;
            error = NO_ERROR;
            errorPlace = NONE;
            rulesTold = false;
            target.clear();
            advance();
            for (int statement = 0; statement < MOST_INPUT && kind != END && error == NO_ERROR; statement++) {
                if (word == DONOR) {
                    readDonor();
                } else if (word == DECLARE) {
                    readDeclaration();
                } else if (word == GIFT) {
                    readGift();
                } else if (word == SPLIT) {
                    readSplit();
                } else if (word == CASH) {
                    readGiftHead();
                    readSemicolon();
                } else if (word == RULES) {
                    readRules();
                } else {
                    fail(SYNTAX);
                }
                advance();
            }
        }

        private void readDonor() {
            int donor = target.donorCount;
            if (donor >= MOST_DONORS) {
                fail(MISPLACED);
            }
            advance();
            if (namedDonor() != NONE) {
                fail(BAD_NAME);
            }
            long name = word;
            int taxLimit = readNumber(0, MOST_MONEY);
            readSemicolon();
            if (error == NO_ERROR && donor < MOST_DONORS) {
                names[donor] = name;
                target.addDonor(taxLimit);
            }
        }

        private void readDeclaration() {
            if (target.declarations.isFull()) {
                fail(MISPLACED);
            }
            advance();
            int donor = knownDonor();
            int first = readNumber(0, LAST_DAY);
            int last = readNumber(first, LAST_DAY);
            readSemicolon();
            if (error == NO_ERROR) {
                target.declarations.add(donor, first, last);
            }
        }

        private void readGift() {
            int gift = readGiftHead();
            advance();
            int donor = knownDonor();
            readSemicolon();
            if (error == NO_ERROR) {
                target.gifts.addPart(gift, donor, 1);
            }
        }

        private void readSplit() {
            int gift = readGiftHead();
            advance();
            readShare(gift);
            advance();
            readShare(gift);
            advance();
            if (kind != SEMICOLON) {
                readShare(gift);
                readSemicolon();
            }
        }

        /** Reads what gift, split and cash have in common; the gift is of nobody known at first. */
        private int readGiftHead() {
            if (target.gifts.isFull()) {
                fail(MISPLACED);
            }
            int day = readNumber(0, LAST_DAY);
            int amount = readNumber(1, MOST_MONEY);
            int benefit = readNumber(0, MOST_MONEY);
            return error == NO_ERROR ? target.gifts.add(day, amount, benefit) : NONE;
        }

        /** Reads a donor, who is the present token, and a weight. */
        private void readShare(int gift) {
            int donor = knownDonor();
            if (gift != NONE && target.gifts.hasDonor(gift, donor)) {
                fail(BAD_NAME);
            }
            int weight = readNumber(1, MOST_WEIGHT);
            if (error == NO_ERROR) {
                target.gifts.addPart(gift, donor, weight);
            }
        }

        private void readRules() {
            if (rulesTold || target.gifts.count > 0) {
                fail(MISPLACED);
            }
            rulesTold = true;
            target.rate = readNumber(0, MOST_PERCENT);
            target.window = readNumber(0, LAST_DAY);
            target.benefitLimit = readNumber(0, MOST_PERCENT);
            readSemicolon();
        }

        private int readNumber(int least, int most) {
            advance();
            if (kind != NUMBER || at - start > MOST_DIGITS) {
                fail(SYNTAX);
                return least;
            }
            int value = 0;
            for (int place = start; place < at; place++) {
                value = value * 10 + (text[place] - '0');
            }
            if (value < least || value > most) {
                fail(OUT_OF_RANGE);
            }
            return value;
        }

        private void readSemicolon() {
            advance();
            if (kind != SEMICOLON) {
                fail(SYNTAX);
            }
        }

        private int knownDonor() {
            int donor = namedDonor();
            if (donor == NONE) {
                fail(BAD_NAME);
            }
            return donor;
        }

        /** The donor with the present token as a name; NONE if there is none, or if it is no name. */
        private int namedDonor() {
            if (kind != WORD || at - start > MOST_LETTERS_OF_NAME || isFirstWord()) {
                fail(SYNTAX);
                return NONE;
            }
            for (int donor = 0; donor < target.donorCount; donor++) {
                if (names[donor] == word) {
                    return donor;
                }
            }
            return NONE;
        }

        private boolean isFirstWord() {
            return word == DONOR || word == DECLARE || word == GIFT || word == SPLIT || word == CASH || word == RULES;
        }

        private void advance() {
            while (at < length && (text[at] == ' ' || text[at] == '\n')) {
                at++;
            }
            start = at;
            kind = kindAt(at);
            if (kind == SEMICOLON || kind == STRAY) {
                at++;
            } else {
                while (at < length && kindAt(at) == kind) {
                    at++;
                }
            }
            word = packedWord();
        }

        private int kindAt(int place) {
            if (place >= length) {
                return END;
            }
            byte sign = text[place];
            if (sign >= 'a' && sign <= 'z') {
                return WORD;
            }
            if (sign >= '0' && sign <= '9') {
                return NUMBER;
            }
            return sign == ';' ? SEMICOLON : STRAY;
        }

        /** The letters of the present token, a byte each; NO_WORD if it is no word, or too long to mean anything. */
        private long packedWord() {
            if (kind != WORD || at - start > MOST_LETTERS) {
                return NO_WORD;
            }
            long packed = 0;
            for (int place = start; place < at; place++) {
                packed = packed << 8 | text[place];
            }
            return packed;
        }

        /** Reports an error at the present token, unless one was met before. */
        private void fail(int code) {
            if (error == NO_ERROR) {
                error = code;
                errorPlace = start;
            }
        }
    }

    /** Draws samples of the claimed parts. */
    private static final class Drawing {
        private static final int ALL_BUT_HIGHEST_BIT = 0x7fffffff;

        final int[] drawn = new int[MOST_SAMPLE];
        int drawnCount;
        private final int[] pool = new int[MOST_SLOTS];
        private int poolCount;

        void draw(Gifts gifts, int size, int seed) {
            fillPool(gifts);
            drawnCount = 0;
            int x = seed;
            while (drawnCount < size && drawnCount < MOST_SAMPLE && poolCount > 0) {
                x = (x * 1103515245 + 12345) & ALL_BUT_HIGHEST_BIT;
                int place = x / 65536 % poolCount;
                drawn[drawnCount] = pool[place];
                drawnCount++;
                dropFromPool(place);
            }
        }

        private void fillPool(Gifts gifts) {
            poolCount = 0;
            for (int slot = 0; slot < gifts.slotCount(); slot++) {
                if (gifts.isPart(slot) && gifts.partClaims[slot] > 0) {
                    pool[poolCount] = slot;
                    poolCount++;
                }
            }
        }

        private void dropFromPool(int place) {
            poolCount--;
            for (int later = place; later < poolCount; later++) {
                pool[later] = pool[later + 1];
            }
        }
    }

    /** The output: at most a line a gift, of a day, two sums of money and three signs. */
    private static final class Printout {
        final byte[] bytes = new byte[MOST_GIFTS * 19];
        int length;

        void clear() {
            length = 0;
        }

        void putByte(int sign) {
            if (length < bytes.length) {
                bytes[length] = (byte) sign;
                length++;
            }
        }

        void putNumber(int value) {
            for (int unit = 100000; unit > 0; unit /= 10) {
                if (unit == 1 || value >= unit) {
                    putByte('0' + value / unit % 10);
                }
            }
        }
    }
}
