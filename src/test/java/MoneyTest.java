/** Promises 24 to 28. */
public final class MoneyTest {
    private MoneyTest() {
    }

    public static void main(String[] args) {
        moneyOfOneLotFromAdvanceToSettling();
        moneyOfAGap();
        heldByLotsOneByOne();
        Check.end("MoneyTest");
    }

    private static void moneyIs(String when, DroitLine x, long in, long out, long kept) {
        Check.same("in " + when, x.in(), in);
        Check.same("out " + when, x.out(), out);
        Check.same("kept " + when, x.kept(), kept);
        Check.same("held " + when, x.held(), in - out - kept);
        Check.same("heldByLots " + when, x.heldByLots(), in - out - kept);
    }

    private static void moneyOfOneLotFromAdvanceToSettling() {
        DroitLine x = new DroitLine();
        x.lot(1, 60000, DroitLine.LIVES);
        moneyIs("at first", x, 0, 0, 0);
        x.advance(0, 30000);
        moneyIs("after the advance", x, 0, 30000, 0);
        x.days(50);
        x.bid(0, 0, 60000);
        x.hammer(0);
        moneyIs("after the hammer", x, 0, 30000, 0);
        x.pay(0);
        moneyIs("after the payment", x, 71700, 30000, 11700);
        x.settle(0);
        moneyIs("after settling", x, 71700, 60000 - 6000 - 300, 11700 + 6000 + 300);
        Check.same("nothing held", x.held(), 0);
    }

    private static void moneyOfAGap() {
        DroitLine x = new DroitLine();
        x.lot(0, 1000, DroitLine.NO_ARTIST);
        Check.sellAndDefault(x, 2);
        moneyIs("after a default", x, 0, 0, 0);
        Check.reopen(x, 400);
        x.bid(0, 1, 400);
        x.hammer(0);
        x.pay(0);
        moneyIs("a gap that is owed", x, 500, 0, 100);
        x.payGaps(2);
        moneyIs("a gap that is paid", x, 1100, 0, 700);
        x.settle(0);
        moneyIs("after settling", x, 1100, 360, 740);
    }

    private static void heldByLotsOneByOne() {
        DroitLine x = new DroitLine();
        for (int lot = 0; lot < 30; lot++) {
            x.lot(lot % 6, 1000000, DroitLine.LIVES);
            x.advance(lot, 500000);
            x.bid(lot, lot % 10, 1000000);
        }
        Check.same("advances of all", x.heldByLots(), -15000000);
        x.hammer(29);
        Check.same("SOLD ones do not count", x.heldByLots(), -15000000);
        x.pay(29);
        Check.same("PAID ones do", x.heldByLots(), -14000000);
        x.settle(29);
        Check.same("SETTLED ones do not", x.heldByLots(), -14500000);
        for (int lot = 0; lot < 29; lot++) {
            x.hammer(lot);
            x.pay(lot);
        }
        moneyIs("all PAID", x, 30L * 1124500, 29L * 500000 + 900000, 30L * 124500 + 100000);
    }
}
