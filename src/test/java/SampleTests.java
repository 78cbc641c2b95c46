/** Promises 43 to 49: samples, means and the output. */
final class SampleTests {
    private SampleTests() {
    }

    static void all() {
        Check.test("promise 43: sample", SampleTests::samples);
        Check.test("promise 43: sample draws the claimed parts alone", SampleTests::claimedAlone);
        Check.test("promise 44: wrongIn", SampleTests::wrongOnes);
        Check.test("promise 45: estimate", SampleTests::estimates);
        Check.test("promise 46: aidShare", SampleTests::shares);
        Check.test("promise 47: meanGift", SampleTests::means);
        Check.test("promise 48: printStatement", SampleTests::statements);
        Check.test("promise 49: outputByte", SampleTests::bytes);
    }

    private static AidRegister fiveClaimed() {
        AidRegister register = Texts.register("rules 100 9999 100;donor a 9999;donor b 9999;declare a 0 99;declare b 0 99;gift 5 100 0 a;"
                + "split 6 300 0 a 1 b 2;cash 0 80 0;gift 300 7 0 a;gift 7 400 0 b;gift 7 500 0 a;");
        register.claim(300);
        return register;
    }

    private static void samples() {
        AidRegister register = fiveClaimed();
        // Seed 0: x is 12345, then 1406932606, 654583775, 1449466924 and 229283573.
        int[] places = {12345 / 65536 % 5, 1406932606 / 65536 % 4, 654583775 / 65536 % 3, 1449466924 / 65536 % 2, 0};
        java.util.List<Integer> parts = new java.util.ArrayList<>(java.util.List.of(0, 3, 4, 12, 15));
        for (int index = 0; index < 5; index++) {
            int due = parts.remove(places[index]);
            Check.same("sample(60, 0, " + index + ")", register.sample(60, 0, index), due);
            Check.same("sample(" + (index + 1) + ", 0, " + index + ")", register.sample(index + 1, 0, index), due);
            Check.same("behind a sample of " + (index + 1), register.sample(index + 1, 0, index + 1), -1);
        }
        // Seed -1: x is -1103502900, and without its highest bit 1043980748.
        Check.same("a seed below 0", register.sample(1, -1, 0), new int[] {0, 3, 4, 12, 15}[1043980748 / 65536 % 5]);
        Check.same("index -1", register.sample(5, 0, -1), -1);
        Check.same("the greatest index", register.sample(5, 0, Integer.MAX_VALUE), -1);
        Check.noArgument("sample(0, 0, 0)", () -> register.sample(0, 0, 0));
        Check.noArgument("sample(61, 0, 0)", () -> register.sample(61, 0, 0));
        Check.same("without claimed parts", new AidRegister().sample(60, 0, 0), -1);
    }

    private static void claimedAlone() {
        StringBuilder text = new StringBuilder("donor a 999999;donor b 999999;donor c 999999;declare a 0 0;declare b 0 0;declare c 0 0;");
        text.append("split 0 9 0 a 1 b 1 c 1;".repeat(32));
        AidRegister register = Texts.register(text.toString());
        Check.same("nothing is claimed", register.sample(60, 7, 0), -1);
        register.setRate(34);
        register.claim(0);
        Check.same("a penny of each part", register.donor(1, 3, -1), 32);
        boolean[] seen = new boolean[96];
        for (int index = 0; index < 60; index++) {
            int part = register.sample(60, 7, index);
            Check.yes("a claimed part, drawn once: " + part, part >= 0 && part < 96 && !seen[part]);
            seen[part] = true;
        }
        Check.same("60 parts at most", register.sample(60, 7, 60), -1);
        register.setRate(0);
        register.claim(0);
        Check.same("all is paid back", register.sample(60, 7, 0), -1);
    }

    private static void wrongOnes() {
        AidRegister register = fiveClaimed();
        Check.same("none", register.wrongIn(60, 0), 0);
        register.refund(1, 1);
        register.refund(4, 400);
        Check.same("of all", register.wrongIn(60, 0), 2);
        for (int size = 1, wrong = 0; size <= 5; size++) {
            int part = register.sample(size, 3, size - 1);
            wrong += part == 4 || part == 12 ? 1 : 0;
            Check.same("of " + size, register.wrongIn(size, 3), wrong);
        }
        register.refund(5, 1);
        register.addGift(0, 1, 100, 0);
        Check.same("of all", register.wrongIn(5, 9), 3);
        Check.noArgument("wrongIn(0, 0)", () -> register.wrongIn(0, 0));
        Check.noArgument("wrongIn(61, 0)", () -> register.wrongIn(61, 0));
        Check.same("without claimed parts", new AidRegister().wrongIn(1, 0), 0);
    }

    private static void estimates() {
        AidRegister register = fiveClaimed();
        Check.same("right", register.estimate(3, 0), 0.0);
        register.refund(1, 201);
        register.refund(5, 100);
        Check.same("of all", register.estimate(60, 0), 301.0);
        int[] tooMuch = {0, 0, 0, 1, 200, 0, 0, 0, 0, 0, 0, 0, 0, 0, 0, 100};
        int[] claimed = {100, 0, 0, 100, 200, 0, 0, 0, 0, 0, 0, 0, 400, 0, 0, 500};
        for (int size = 1; size <= 5; size++) {
            double over = 0;
            double all = 0;
            for (int index = 0; index < size; index++) {
                over += tooMuch[register.sample(size, 11, index)];
                all += claimed[register.sample(size, 11, index)];
            }
            Check.same("of " + size, register.estimate(size, 11), over * 1300.0 / all);
        }
        Check.noArgument("estimate(0, 0)", () -> register.estimate(0, 0));
        Check.noArgument("estimate(61, 0)", () -> register.estimate(61, 0));
        Check.same("without claimed parts", new AidRegister().estimate(1, 0), 0.0);
    }

    private static void shares() {
        AidRegister register = Texts.register("donor a 99;declare a 0 9;gift 5 100 0 a;cash 5 200 0;gift 50 7 0 a;");
        Check.same("aidShare", register.aidShare(), 25f / 307f);
        register.refund(1, 200);
        Check.same("aidShare", register.aidShare(), 25f / 107f);
        register.refund(0, 100);
        register.refund(2, 7);
        Check.same("nothing left", register.aidShare(), 0f);
    }

    private static void means() {
        AidRegister register = Texts.register("donor a 99;declare a 0 9;gift 5 100 0 a;cash 5 200 0;gift 50 7 0 a;");
        Check.same("meanGift", register.meanGift(), 307.0 / 3.0);
        register.refund(1, 199);
        Check.same("meanGift", register.meanGift(), 36.0);
        register.refund(1, 1);
        Check.same("of two", register.meanGift(), 53.5);
        register.refund(0, 100);
        register.refund(2, 7);
        Check.same("of none", register.meanGift(), 0.0);
    }

    private static void statements() {
        AidRegister register = Texts.register("rules 100 9 100;donor a 999999;donor b 9;declare a 0 9999;gift 9999 999999 0 a;split 0 12 0 b 1 a 5;"
                + "cash 5 5 0;gift 10 400 0 b;gift 105 30 0 a;");
        register.refund(1, 3);
        Check.same("of a", register.printStatement(0), 35);
        Check.same("the output", Texts.output(register), "9999:999999+999999\n0:7+7\n105:30+30\n");
        Check.same("of b", register.printStatement(1), 15);
        Check.same("the output", Texts.output(register), "0:2+0\n10:400+0\n");
        register.undo();
        Check.same("undo leaves the output", Texts.output(register), "0:2+0\n10:400+0\n");
        Check.noIndex("printStatement(2)", () -> register.printStatement(2));
        Check.noIndex("printStatement(-1)", () -> register.printStatement(-1));
        Check.same("an exception leaves the output", Texts.output(register), "0:2+0\n10:400+0\n");
        Texts.load(register, "donor c 5;");
        Check.same("a load leaves the output", Texts.output(register), "0:2+0\n10:400+0\n");
        Check.same("of c", register.printStatement(0), 0);
        Check.same("the empty output", register.outputByte(0), -1);
    }

    private static void bytes() {
        AidRegister register = Texts.register("rules 100 9 100;donor a 999999;declare a 9999 9999;");
        for (int gift = 0; gift < 60; gift++) {
            register.addGift(0, 9999, 999999, 0);
        }
        // The first gift uses up the tax limit.
        Check.same("the length", register.printStatement(0), 19 + 59 * 14);
        int[] due = {'9', '9', '9', '9', ':', '9', '9', '9', '9', '9', '9', '+', '9', '9', '9', '9', '9', '9', 10, '9'};
        for (int index = 0; index < due.length; index++) {
            Check.same("outputByte(" + index + ")", register.outputByte(index), due[index]);
        }
        Check.same("the last byte", register.outputByte(844), 10);
        Check.same("behind it", register.outputByte(845), -1);
        Check.same("before the first", register.outputByte(-1), -1);
        Check.same("the least index", register.outputByte(Integer.MIN_VALUE), -1);
    }
}
