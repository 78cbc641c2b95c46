/** Everything that can be asked of a register, as a text. */
final class Snapshot {
    private final AidRegister register;
    private final StringBuilder text = new StringBuilder();

    private Snapshot(AidRegister register) {
        this.register = register;
    }

    /** The counts, and the sums that move if anything in the register does. */
    static String brief(AidRegister register) {
        Snapshot snapshot = new Snapshot(register);
        snapshot.sums();
        return snapshot.text.toString();
    }

    /** All that a small register answers: its sums, declarations, gifts, parts, claims, its output and its error. */
    static String full(AidRegister register) {
        Snapshot snapshot = new Snapshot(register);
        snapshot.sums();
        snapshot.details();
        snapshot.put("output", Texts.output(register));
        snapshot.put("error", register.errorCode() + " at " + register.errorOffset());
        return snapshot.text.toString();
    }

    /** All that it answers, then what can be undone, what is saved and what stands in the buffer: this uses it up. */
    static String whole(AidRegister register) {
        StringBuilder text = new StringBuilder(full(register));
        for (int left = register.undo(); left >= 0; left = register.undo()) {
            text.append("behind an undo, ").append(left).append(" left\n").append(brief(register));
        }
        text.append("restored ").append(restored(register)).append('\n').append(brief(register));
        text.append("loaded ").append(register.loadRegister()).append('\n').append(full(register));
        return text.toString();
    }

    private static String restored(AidRegister register) {
        try {
            return String.valueOf(register.restoreState());
        } catch (IllegalStateException none) {
            return "nothing";
        }
    }

    private void put(String what, Object value) {
        text.append(what).append(": ").append(value).append('\n');
    }

    private void sums() {
        for (int what = 0; what < 10; what++) {
            put("count " + what, register.count(what));
        }
        put("totalAid", register.totalAid());
        put("overclaimed", register.overclaimed());
        put("claimable", register.claimable(9999, false));
        put("meanGift", register.meanGift());
        for (int donor = 0; donor < register.count(0); donor++) {
            put("taxLimit " + donor, register.taxLimit(donor));
            put("coverage " + donor, register.coverage(donor, 0, 9999));
            for (int what = 0; what < 4; what++) {
                put("donor " + donor + " " + what, register.donor(donor, what, -1));
            }
        }
    }

    private void details() {
        int declarations = register.count(1);
        for (int declaration = 0; declaration < declarations; declaration++) {
            for (int what = 0; what < 3; what++) {
                put("declaration " + declaration + " " + what, register.declaration(declaration, what));
            }
        }
        int gifts = register.count(2);
        for (int gift = 0; gift < gifts; gift++) {
            for (int what = 0; what < 5; what++) {
                put("gift " + gift + " " + what, register.gift(gift, what));
            }
            int parts = register.gift(gift, 3);
            for (int part = 0; part < parts; part++) {
                for (int what = 0; what < 6; what++) {
                    put("part " + gift + " " + part + " " + what, register.part(gift, part, what));
                }
            }
        }
        int claims = register.count(4);
        for (int claim = 0; claim < claims; claim++) {
            for (int what = 0; what < 5; what++) {
                put("claim " + claim + " " + what, register.claimed(claim, what));
            }
        }
    }
}
