import com.sun.management.ThreadMXBean;
import java.lang.management.ManagementFactory;

/** All calls of a run share one room, so only the making of an object and its first changes may take some. */
final class RoomTests {
    private static final long BYTES_OF_REGISTER = 200_000;
    private static final long BYTES_OF_MEASURING = 1_000;

    private RoomTests() {
    }

    static void all() {
        Check.test("the room: an object and its first ten changes", RoomTests::makingAndChanging);
        Check.test("the room: no call takes any behind them", RoomTests::laterCalls);
    }

    private static long allocated() {
        ThreadMXBean threads = (ThreadMXBean) ManagementFactory.getThreadMXBean();
        return threads.getCurrentThreadAllocatedBytes();
    }

    private static AidRegister full() {
        AidRegister register = Texts.register("donor a 999999;donor b 999999;declare a 0 9999;declare b 0 99;");
        for (int gift = 0; gift < 60; gift++) {
            register.addGift(0, gift * 100, 1000, 0);
        }
        for (int gift = 0; gift < 60; gift += 2) {
            register.split(gift, 1, 1, 2);
        }
        while (register.count(1) < 30) {
            register.declare(register.count(1) % 2, register.count(1) * 300, register.count(1) * 300 + 9);
        }
        register.claim(1000);
        return register;
    }

    private static void makingAndChanging() {
        full();
        long before = allocated();
        AidRegister register = full();
        long taken = allocated() - before;
        Check.same("gifts", register.count(2), 60);
        Check.yes("bytes taken: " + taken, taken < BYTES_OF_REGISTER);
    }

    private static void laterCalls() {
        AidRegister register = full();
        askAndChange(register);
        long before = allocated();
        askAndChange(register);
        long taken = allocated() - before;
        Check.yes("bytes taken: " + taken, taken < BYTES_OF_MEASURING);
    }

    private static void askAndChange(AidRegister register) {
        for (int round = 0; round < 3; round++) {
            register.neededSpan(1, true);
            register.bestAsked();
            register.gainOf(0, 5, 9000);
            register.gainOfSplit(1, 1);
            register.useOf(3);
            register.sample(60, round, 5);
            register.wrongIn(60, round);
            register.estimate(60, round);
            register.printStatement(0);
            register.outputByte(5);
            register.lost(3);
            register.bestYear();
            register.topDonor(2);
            register.needless(0);
            register.gap(1, 7, false);
            register.longestSpan(0);
            register.coverage(1, 0, 9999);
            register.claimable(5000, true);
            register.expiring(0, 9999);
            register.mostUrgent();
            register.saveState();
            register.setRate(20 + round);
            register.setTaxLimit(0, 3000);
            register.revoke(0, 9000 - round);
            register.refund(2 + round, 1);
            register.claim(1500);
            register.undo();
            register.restoreState();
            register.appendInput(0x20202020, 0x20202020, 0x20202020, 0x20202020, 0x20202020);
            register.truncateInput(0);
        }
    }
}
