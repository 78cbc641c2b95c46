import java.util.ArrayList;
import java.util.List;

/** Promises 43 to 49, sentence by sentence: samples, means and the output. */
final class BoundsOfSamples extends Bounds {
    private static final String NO_SIZE = "Throws `IllegalArgumentException` if size is out of range";
    private static final int[] SEEDS = {0, 1, -1, 2, 12345, 65536, LEAST, LEAST + 1, GREATEST, GREATEST - 1, 1103515245, -1103515245};

    private BoundsOfSamples() {
    }

    static void all() {
        sample();
        drawing();
        wrongIn();
        estimate();
        aidShare();
        meanGift();
        printStatement();
        outputByte();
    }

    /** A register of this many parts with a claimed amount of 2 each, among others without one. */
    private static AidRegister claimedParts(int parts) {
        StringBuilder text = new StringBuilder("rules 50 9 0;donor a 99999;donor b 99999;donor c 99999;declare a 0 9;declare b 0 9;declare c 0 9;"
                + "cash 0 9 0;");
        for (int told = 0; told < parts; told += 3) {
            text.append(told + 3 <= parts ? "split 0 12 0c1a1b1;" : told + 2 <= parts ? "gift 99 1 0a;split 0 8 0b1a1;" : "gift 0 1 0c;gift 0 4 0b;");
        }
        AidRegister register = register(text.toString());
        register.claim(0);
        return register;
    }

    private static List<Integer> claimed(AidRegister register) {
        List<Integer> places = new ArrayList<>();
        for (int gift = 0; gift < register.count(2); gift++) {
            for (int part = 0; part < register.gift(gift, 3); part++) {
                if (register.part(gift, part, 5) > 0) {
                    places.add(3 * gift + part);
                }
            }
        }
        return places;
    }

    /** The document's drawing, in longs. */
    private static List<Integer> drawn(List<Integer> claimed, int size, int seed) {
        List<Integer> left = new ArrayList<>(claimed);
        List<Integer> drawn = new ArrayList<>();
        long x = seed;
        while (drawn.size() < size && !left.isEmpty()) {
            x = Math.floorMod(x * 1103515245L + 12345L, 1L << 31);
            drawn.add(left.remove((int) (x / 65536 % left.size())));
        }
        return drawn;
    }

    // --- promise 43

    private static void sample() {
        holds(43, "`size`: number of parts, 1 to 60", () -> {
            AidRegister register = claimedParts(62);
            noArgument("size", size -> register.sample(size, 0, 0), 0, 61, -1, LEAST, GREATEST);
            yes("the one part of 1", register.sample(1, 0, 0) >= 0);
            same("a second part of 1", register.sample(1, 0, 1), -1);
            yes("the last part of 60", register.sample(60, 0, 59) >= 0);
            same("a 61st part of 60", register.sample(60, 0, 60), -1);
        });
        holds(43, "`seed`: any int", () -> {
            AidRegister register = claimedParts(7);
            List<Integer> claimed = claimed(register);
            for (int seed : SEEDS) {
                List<Integer> due = drawn(claimed, 7, seed);
                row("the sample by " + seed, index -> register.sample(7, seed, index), due.stream().mapToLong(i -> i).toArray());
            }
        });
        holds(43, "`index`: place in the sample, in the order of drawing, from 0", () -> {
            AidRegister register = claimedParts(62);
            List<Integer> due = drawn(claimed(register), 60, 5);
            for (int index = 0; index < 60; index++) {
                same("place " + index, register.sample(60, 5, index), due.get(index));
            }
        });
        holds(43, "Returns 3 * the number of the gift + the index of the part; -1 if there is no such place.", () -> {
            AidRegister last = register("rules 100 9999 0;donor a 9;donor b 9;donor c 9;"
                    + "declare c 0 9999;" + "cash 0 1 0;".repeat(59) + "split 9999 9 0 a 1 b 1 c 1;");
            last.claim(9999);
            same("the last part of all", last.sample(60, 0, 0), 179);
            AidRegister first = register("rules 100 9999 0;donor a 9;declare a 0 9999;gift 0 1 0 a;cash 0 1 0;");
            first.claim(0);
            same("the first part of all", first.sample(1, 9, 0), 0);
            for (int index : new int[] {-1, 1, 2, 59, 60, 61, LEAST, GREATEST}) {
                same("no such place: " + index, last.sample(60, 0, index), -1);
            }
            same("without claimed parts", new AidRegister().sample(60, 0, 0), -1);
            same("without claimed parts", new AidRegister().sample(1, 0, -1), -1);
        });
        holds(43, NO_SIZE, () -> {
            noArgument("size", size -> new AidRegister().sample(size, 0, -1), 0, 61);
            AidRegister register = claimedParts(3);
            noArgument("size", size -> register.sample(size, 0, 0), 0, 61);
        });
    }

    private static void drawing() {
        holds(43, "A sample of a number of parts by a seed: the claimed parts are those with a claimed amount greater than 0, in the order of their gifts,"
                + " in a gift in the order of its parts.", () -> {
            AidRegister register = register("rules 100 9999 0;donor a 9;donor b 9;donor c 9;declare a 0 9;declare b 0 9;declare c 5 9;gift 9 1 0 b;"
                    + "split 0 3 0 c 1 b 1 a 1;cash 0 1 0;gift 5 1 0 c;gift 0 1 0 c;");
            same("before a claim", register.sample(60, 0, 0), -1);
            register.claim(9);
            long[] due = drawn(List.of(0, 4, 5, 9), 60, 77).stream().mapToLong(i -> i).toArray();
            row("a penny each", index -> register.sample(60, 77, index), due);
            same("no more", register.sample(60, 77, 4), -1);
            register.refund(0, 1);
            register.setRate(0);
            row("claimed still, without aid", index -> register.sample(60, 77, index), due);
            register.claim(9);
            same("all paid back", register.sample(60, 77, 0), -1);
        });
        holds(43, "The state x is the seed at first.", () -> {
            AidRegister register = claimedParts(62);
            List<Integer> claimed = claimed(register);
            for (int seed : SEEDS) {
                long x = Math.floorMod(seed * 1103515245L + 12345L, 1L << 31);
                same("the first draw by " + seed, register.sample(1, seed, 0), claimed.get((int) (x / 65536 % 62)));
            }
        });
        holds(43, "Again and again, x becomes (x * 1103515245 + 12345) with the highest bit cleared (in ints), and the part at the place (x / 65536)"
                + " % (the number of claimed parts that are not drawn yet), among those not drawn yet in their order, is drawn; until the number of"
                + " the sample is reached or all are drawn.", () -> {
            // 114 parts are those of 38 gifts of three donors each.
            for (int parts : new int[] {1, 2, 59, 60, 61, 62, 114}) {
                AidRegister register = claimedParts(parts);
                List<Integer> claimed = claimed(register);
                same("claimed parts", claimed.size(), parts);
                for (int size : new int[] {1, 2, parts - 1, parts, parts + 1, 59, 60}) {
                    if (size >= 1 && size <= 60) {
                        List<Integer> due = drawn(claimed, size, size * 7919);
                        int last = due.size() - 1;
                        same("the last of " + size + " of " + parts, register.sample(size, size * 7919, last), due.get(last));
                        same("behind it", register.sample(size, size * 7919, last + 1), -1);
                    }
                }
            }
        });
    }

    // --- promises 44 and 45

    private static void wrongIn() {
        holds(44, "Returns how many parts of a sample are wrong: their claimed amount is greater than their aid.", () -> {
            AidRegister register = claimedParts(6);
            same("none", register.wrongIn(6, 0), 0);
            register.refund(1, 1);
            same("a penny too much, by a wish rounded down", register.wrongIn(6, 0), 1);
            register.refund(2, 3);
            register.addGift(0, 0, 99, 0);
            same("two", register.wrongIn(6, 0), 2);
            List<Integer> wrong = List.of(5, 8);
            for (int size = 1; size <= 5; size++) {
                for (int seed : SEEDS) {
                    long due = drawn(claimed(register), size, seed).stream().filter(wrong::contains).count();
                    same("of " + size + " by " + seed, register.wrongIn(size, seed), due);
                }
                register = again(register);
            }
        });
        holds(44, "`size`: number of parts, 1 to 60", () -> {
            AidRegister register = claimedParts(62);
            register.setRate(0);
            noArgument("size", size -> register.wrongIn(size, 0), 0, 61, -1, LEAST, GREATEST);
            same("1", register.wrongIn(1, 0), 1);
            same("60", register.wrongIn(60, 0), 60);
            AidRegister few = claimedParts(4);
            few.setRate(0);
            same("60 of 4", few.wrongIn(60, 0), 4);
            same("without claimed parts", new AidRegister().wrongIn(60, 0), 0);
        });
        holds(44, "`seed`: any int", () -> {
            AidRegister register = claimedParts(6);
            register.refund(1, 12);
            for (int seed : SEEDS) {
                long due = drawn(claimed(register), 3, seed).stream().filter(place -> place / 3 == 1).count();
                same("by " + seed, register.wrongIn(3, seed), due);
            }
        });
        holds(44, NO_SIZE, () -> {
            noArgument("without claimed parts", size -> new AidRegister().wrongIn(size, 0), 0, 61);
        });
    }

    /** The same register, made anew, as an object is used for 512 calls alone. */
    private static AidRegister again(AidRegister before) {
        AidRegister register = claimedParts(6);
        register.refund(1, 1);
        register.refund(2, 3);
        register.addGift(0, 0, 99, 0);
        same("the claimed parts", claimed(register).size(), claimed(before).size());
        return register;
    }

    private static void estimate() {
        holds(45, "Estimates what was claimed too much from a sample: what was claimed too much of its parts * the claimed amount of all parts / the claimed"
                + " amount of its parts, as doubles, in this order.", () -> {
            AidRegister register = register("rules 100 9999 0;donor a 999;donor b 999;declare a 0 9;declare b 0 9;gift 0 100 0 a;"
                    + "split 0 63 0 a 1 b 2;gift 0 10 0 b;"
                    + "gift 0 7 0 a;gift 99 5 0 a;");
            register.claim(0);
            register.refund(0, 33);
            register.refund(1, 43);
            register.addGift(0, 0, 500, 0);
            double[] tooMuch = {33, 0, 0, 1, 42, 0, 0, 0, 0, 0};
            double[] claimed = {100, 0, 0, 21, 42, 0, 10, 0, 0, 7};
            for (int seed : SEEDS) {
                for (int size = 1; size <= 5; size++) {
                    double over = 0.0;
                    double all = 0.0;
                    for (int place : drawn(List.of(0, 3, 4, 6, 9), size, seed)) {
                        over += tooMuch[place];
                        all += claimed[place];
                    }
                    same("of " + size + " by " + seed, register.estimate(size, seed), over * 180.0 / all);
                }
            }
            AidRegister full = Fixtures.full();
            full.setRate(0);
            same("products beyond the ints", full.estimate(60, 0), 59999940.0);
            same("of one", full.estimate(1, 0), 999999.0 * 59999940.0 / 999999.0);
        });
        holds(45, "`size`: number of parts, 1 to 60", () -> {
            AidRegister register = claimedParts(62);
            register.setRate(0);
            noArgument("size", size -> register.estimate(size, 0), 0, 61, -1, LEAST, GREATEST);
            same("1", register.estimate(1, 0), 124.0);
            same("60", register.estimate(60, 0), 124.0);
        });
        holds(45, "`seed`: any int", () -> {
            AidRegister register = claimedParts(6);
            register.refund(1, 12);
            for (int seed : SEEDS) {
                long wrong = drawn(claimed(register), 2, seed).stream().filter(place -> place / 3 == 1).count();
                same("by " + seed, register.estimate(2, seed), wrong * 2.0 * 12.0 / 4.0);
            }
        });
        holds(45, "Returns the estimate; 0.0 without claimed parts.", () -> {
            same("of nothing", new AidRegister().estimate(1, 0), 0.0);
            AidRegister register = register("rules 100 9999 0;donor a 999;declare a 0 9;gift 0 100 0 a;");
            same("without a claim", register.estimate(60, 0), 0.0);
            register.claim(0);
            same("without a fault", register.estimate(60, 0), 0.0);
            register.refund(0, 1);
            same("a penny", register.estimate(60, 0), 1.0);
            register.refund(0, 99);
            register.claim(0);
            same("all paid back", register.estimate(60, 0), 0.0);
        });
        holds(45, NO_SIZE, () -> {
            noArgument("without claimed parts", size -> new AidRegister().estimate(size, 0), 0, 61);
        });
    }

    // --- promises 46 and 47

    private static void aidShare() {
        holds(46, "Returns the share of the left amounts that has aid: the aid of all parts divided by what is left of all gifts, both converted to float.", () -> {
            AidRegister register = register("rules 100 0 0;donor a 1;declare a 0 9999;gift 0 777233 0 a;" + "cash 0 999999 0;".repeat(16));
            same("the left amount as a float is 16777216", register.aidShare(), 1f / 16777216f);
            yes("which is another share", 1f / 16777216f != (float) (1.0 / 16777217.0));
            same("a full register", Fixtures.full().aidShare(), 1f);
            AidRegister third = register("rules 100 0 0;donor a 1;donor b 1;declare a 0 0;split 0 3 0 b 2 a 1;");
            same("a third", third.aidShare(), 1f / 3f);
            third.refund(0, 1);
            same("none", third.aidShare(), 0f);
        });
        holds(46, "Returns the share; 0 if nothing is left.", () -> {
            same("of nothing", new AidRegister().aidShare(), 0f);
            AidRegister register = register("rules 100 0 0;donor a 99;declare a 0 9;gift 0 5 0 a;cash 0 2 0;");
            register.refund(1, 2);
            register.refund(0, 4);
            same("a penny left", register.aidShare(), 1f);
            register.refund(0, 1);
            same("nothing left", register.aidShare(), 0f);
        });
    }

    private static void meanGift() {
        holds(47, "Returns the mean of what is left of the gifts of which something is left: the sum divided by the number of these gifts, both converted to"
                + " double.", () -> {
            AidRegister register = register("donor a 9;gift 0 5 0 a;cash 0 2 0;cash 0 9 0;");
            same("three", register.meanGift(), 16.0 / 3.0);
            register.refund(2, 8);
            same("a penny left of one", register.meanGift(), 8.0 / 3.0);
            register.refund(2, 1);
            same("two", register.meanGift(), 3.5);
            same("a full register", Fixtures.full().meanGift(), 999999.0);
        });
        holds(47, "Returns the mean; 0.0 without such gifts.", () -> {
            same("without gifts", new AidRegister().meanGift(), 0.0);
            AidRegister register = register("cash 0 1 0;cash 0 2 0;");
            register.refund(1, 2);
            same("of one", register.meanGift(), 1.0);
            register.refund(0, 1);
            same("of none", register.meanGift(), 0.0);
        });
    }

    // --- promises 48 and 49

    private static void printStatement() {
        holds(48, "Writes a statement of a donor to the output, in place of what it had: for each part of the donor, in the order of the gifts, the day of the"
                + " gift, a colon, what is left of the part, a plus, its aid, and a line feed (byte 10).", () -> {
            AidRegister register = register("rules 100 0 0;donor a 999999;donor b 9;declare a 0 9999;gift 9999 999999 0 a;split 0 300 0 b 2 a 1;"
                    + "cash 0 9 0;gift 10 9 0 b;"
                    + "gift 9 100000 0 a;gift 365 10 0 a;");
            register.refund(5, 10);
            register.printStatement(0);
            same("a", Texts.output(register), "9999:999999+999999\n0:100+100\n9:100000+100000\n365:0+0\n");
            register.printStatement(1);
            same("b", Texts.output(register), "0:200+0\n10:9+0\n");
            register.refund(3, 9);
            same("the output stays as it was", Texts.output(register), "0:200+0\n10:9+0\n");
            String[] numbers = {"1", "9", "10", "11", "99", "100", "999", "1000", "9999", "10000", "99999", "100000", "900000", "999999"};
            AidRegister all = register("donor a 9;" + "gift 0 1 0 a;".repeat(2));
            for (int i = 0; i < numbers.length; i++) {
                all.addGift(0, 5, Integer.parseInt(numbers[i]), 0);
            }
            all.printStatement(0);
            same("numbers of 1 to 6 digits", Texts.output(all), "0:1+0\n0:1+0\n5:" + String.join("+0\n5:", numbers) + "+0\n");
        });
        holds(48, "The output does not belong to what is undone or saved.", () -> {
            AidRegister register = register("donor a 9;donor b 9;gift 0 1 0 a;");
            register.printStatement(0);
            register.saveState();
            register.setRate(1);
            register.printStatement(1);
            register.undo();
            same("behind an undo", register.outputByte(0), -1);
            register.printStatement(0);
            register.restoreState();
            same("behind a restore", Texts.output(register), "0:1+0\n");
            register.saveState();
            register.printStatement(1);
            register.restoreState();
            same("behind another restore", register.outputByte(0), -1);
        });
        holds(48, "Returns the number of bytes.", () -> {
            AidRegister register = register("rules 100 0 0;donor a 999999;donor b 9;donor c 9;declare a 0 9999;cash 0 1 0;split 0 9 0 b 8 a 1;");
            same("of one line", register.printStatement(0), 6);
            same("of no line", register.printStatement(2), 0);
            AidRegister sixty = register("rules 100 0 0;donor a 999999;declare a 0 9999;");
            for (int gift = 0; gift < 60; gift++) {
                sixty.addGift(0, 9999, gift == 0 ? 999999 : 100000, 0);
            }
            same("of sixty lines", sixty.printStatement(0), 19 + 59 * 14);
            AidRegister years = register("rules 100 0 0;donor a 999999;declare a 0 9999;");
            for (int gift = 0; gift < 60; gift++) {
                years.addGift(0, Math.min(9999, 1000 + gift % 25 * 365), 399999, 0);
            }
            // Of the first 50 gifts each has its aid, two a year; of the last ten each is the third of its year.
            same("of sixty long lines", years.printStatement(0), 60 * 19);
            same("the last byte", years.outputByte(60 * 19 - 1), 10);
            same("behind it", years.outputByte(60 * 19), -1);
        });
        needsDonor(48, "printStatement", AidRegister::printStatement);
    }

    private static void outputByte() {
        holds(49, "`index`: index of the byte, from 0", () -> {
            AidRegister register = register("donor a 9;gift 7 12 0 a;");
            same("printStatement", register.printStatement(0), 7);
            row("the bytes", register::outputByte, '7', ':', '1', '2', '+', '0', 10);
        });
        holds(49, "Returns the byte; -1 if there is no such byte.", () -> {
            AidRegister register = register("donor a 9;donor b 9;gift 7 12 0 a;");
            for (int index : new int[] {0, 1, -1, LEAST, GREATEST}) {
                same("of an empty output, " + index, register.outputByte(index), -1);
            }
            register.printStatement(0);
            same("the last byte", register.outputByte(6), 10);
            for (int index : new int[] {7, 8, -1, 1139, 1140, LEAST, GREATEST}) {
                same("of seven bytes, " + index, register.outputByte(index), -1);
            }
            register.printStatement(1);
            same("of a shorter statement in its place", register.outputByte(0), -1);
        });
    }
}
