/** Registers to begin with. */
final class Fixtures {
    static final String IN_BUFFER = "donor zed 7;cash 1 1 1;";

    private Fixtures() {
    }

    /**
     * A register with something of everything: two donors, two declarations, gifts of one, of two and of no donor, a
     * claim, a refund, a saved state, two changes to undo, an output, a reported error and a text in the buffer.
     */
    static AidRegister busy() {
        AidRegister register = Texts.register("rules 50 100 25;donor ann 60;donor bob 999;declare ann 0 99;declare bob 50 400;"
                + "gift 10 100 0 ann;split 60 301 0 ann 1 bob 2;cash 70 500 126;gift 365 40 0 bob;");
        register.claim(100);
        register.saveState();
        register.refund(0, 60);
        register.printStatement(1);
        Texts.load(register, "donor zed 5;                  #");
        Texts.append(register, IN_BUFFER);
        return register;
    }

    /** As many donors, declarations, gifts and claims as there can be, each gift of the greatest amount. */
    static AidRegister full() {
        AidRegister register = Texts.register("rules 100 9999 100;" + Bounds.tenDonors());
        for (int declaration = 0; declaration < 30; declaration++) {
            register.declare(declaration % 10, 0, 9999);
        }
        for (int gift = 0; gift < 60; gift++) {
            register.addGift(gift % 10, gift / 10 * 365, 999999, 999999);
        }
        for (int donor = 0; donor < 10; donor++) {
            register.setTaxLimit(donor, 999999);
        }
        for (int claim = 0; claim < 20; claim++) {
            register.claim(9999);
        }
        return register;
    }
}
