/** Promises 8 to 15. */
public final class PaymentsTest {
    private PaymentsTest() {
    }

    public static void main(String[] args) {
        payTakesPriceAndFee();
        payNeedsASoldLot();
        defaultsOpensTheLot();
        defaultsNeedsASoldLot();
        theFirstDefaulterOwesTheGap();
        noGapIfThePriceIsNotLower();
        payGapsPaysAll();
        payGapsChecksItsCall();
        advanceIsPaidOnce();
        advanceInEveryState();
        advanceChecksItsCall();
        settleWithoutAdvance();
        settleWithAdvance();
        settleNeedsAPaidLot();
        commissionOfEachSeller();
        rateOfInterest();
        daysGoBy();
        Check.end("PaymentsTest");
    }

    private static void payTakesPriceAndFee() {
        DroitLine x = Check.sold(60000, 0);
        Check.same("pay", x.pay(0), 60000 + 2500 + 8000 + 1200);
        Check.same("state", x.state(0), DroitLine.PAID);
        Check.same("buyer", x.buyerOf(0), 0);
        Check.same("price", x.price(0), 60000);
        Check.same("in", x.in(), 71700);
        Check.same("kept", x.kept(), 11700);
    }

    private static void payNeedsASoldLot() {
        DroitLine x = new DroitLine();
        Check.fails("no lot", Check.INDEX, () -> x.pay(0));
        Check.fails("lot -1", Check.INDEX, () -> x.pay(-1));
        x.lot(0, 100, 0);
        Check.fails("OPEN", Check.STATE, () -> x.pay(0));
        x.hammer(0);
        Check.fails("UNSOLD", Check.STATE, () -> x.pay(0));
        DroitLine y = Check.paid(100, 0);
        Check.fails("PAID", Check.STATE, () -> y.pay(0));
        y.settle(0);
        Check.fails("SETTLED", Check.STATE, () -> y.pay(0));
        Check.same("in", y.in(), 125);
    }

    private static void defaultsOpensTheLot() {
        DroitLine x = new DroitLine();
        x.lot(0, 500, 0);
        x.bid(0, 6, 900);
        x.bid(0, 2, 700);
        x.hammer(0);
        Check.same("defaults", x.defaults(0), 6);
        Check.same("state", x.state(0), DroitLine.OPEN);
        Check.same("buyer", x.buyerOf(0), DroitLine.NONE);
        Check.same("price", x.price(0), DroitLine.NONE);
        Check.same("bids", x.bids(0), 0);
        Check.same("nothing owed yet", x.owes(6), 0);
        x.bid(0, 2, 450);
        Check.same("the same reserve", x.hammer(0), DroitLine.NONE);
        x.again(0, 500);
        x.bid(0, 2, 800);
        Check.same("sold again", x.hammer(0), 500);
    }

    private static void defaultsNeedsASoldLot() {
        DroitLine x = new DroitLine();
        Check.fails("no lot", Check.INDEX, () -> x.defaults(0));
        Check.fails("lot -1", Check.INDEX, () -> x.defaults(-1));
        x.lot(0, 100, 0);
        Check.fails("OPEN", Check.STATE, () -> x.defaults(0));
        x.hammer(0);
        Check.fails("UNSOLD", Check.STATE, () -> x.defaults(0));
        DroitLine y = Check.paid(100, 0);
        Check.fails("PAID", Check.STATE, () -> y.defaults(0));
        y.settle(0);
        Check.fails("SETTLED", Check.STATE, () -> y.defaults(0));
    }

    private static void theFirstDefaulterOwesTheGap() {
        DroitLine x = new DroitLine();
        x.lot(0, 1000, 0);
        Check.sellAndDefault(x, 3);
        Check.reopen(x, 5000);
        Check.sellAndDefault(x, 4);
        Check.reopen(x, 700);
        x.bid(0, 5, 700);
        x.hammer(0);
        Check.same("owed only when it is PAID", x.owes(3), 0);
        x.pay(0);
        Check.same("the first owes, from the first price", x.owes(3), 300);
        Check.same("the later does not", x.owes(4), 0);
        Check.same("nor the buyer", x.owes(5), 0);
        DroitLine y = new DroitLine();
        y.lot(0, 1000, 0);
        Check.sellAndDefault(y, 3);
        Check.reopen(y, 900);
        y.bid(0, 3, 900);
        y.hammer(0);
        y.pay(0);
        Check.same("who buys it again owes too", y.owes(3), 100);
    }

    private static int owedAfterResale(int first, int second) {
        DroitLine x = new DroitLine();
        x.lot(0, first, 0);
        Check.sellAndDefault(x, 9);
        Check.reopen(x, second);
        x.bid(0, 0, 1000000);
        x.hammer(0);
        x.pay(0);
        return x.owes(9);
    }

    private static void noGapIfThePriceIsNotLower() {
        Check.same("higher", owedAfterResale(1000, 1100), 0);
        Check.same("alike", owedAfterResale(1000, 1000), 0);
        Check.same("one step lower", owedAfterResale(1000, 950), 50);
        Check.same("from the top", owedAfterResale(1000000, 50), 999950);
    }

    private static DroitLine withTwoGaps() {
        DroitLine x = new DroitLine();
        for (int lot = 0; lot < 2; lot++) {
            x.lot(0, 1000, 0);
            x.bid(lot, 9, 1000);
            x.hammer(lot);
            x.defaults(lot);
            x.hammer(lot);
            x.again(lot, 800 - 100 * lot);
            x.bid(lot, 1, 1000);
            x.hammer(lot);
            x.pay(lot);
        }
        return x;
    }

    private static void payGapsPaysAll() {
        DroitLine x = withTwoGaps();
        long in = x.in();
        long kept = x.kept();
        long held = x.held();
        Check.same("two gaps", x.owes(9), 500);
        Check.same("payGaps", x.payGaps(9), 500);
        Check.same("owes", x.owes(9), 0);
        Check.same("in", x.in(), in + 500);
        Check.same("kept", x.kept(), kept + 500);
        Check.same("held", x.held(), held);
        Check.fails("twice", Check.STATE, () -> x.payGaps(9));
    }

    private static void payGapsChecksItsCall() {
        DroitLine x = withTwoGaps();
        Check.fails("buyer -1", Check.INDEX, () -> x.payGaps(-1));
        Check.fails("buyer 10", Check.INDEX, () -> x.payGaps(10));
        Check.fails("nothing owed", Check.STATE, () -> x.payGaps(0));
        Check.same("still owed", x.owes(9), 500);
        DroitLine y = new DroitLine();
        y.lot(0, 1000, 0);
        Check.sellAndDefault(y, 9);
        Check.fails("an open gap is not owed yet", Check.STATE, () -> y.payGaps(9));
    }

    private static void advanceIsPaidOnce() {
        DroitLine x = new DroitLine();
        x.lot(0, 1099, 0);
        Check.same("the greatest", x.advance(0, 1), 500);
        Check.same("out", x.out(), 1);
        Check.fails("a second", Check.STATE, () -> x.advance(0, 1));
        Check.fails("a second, too much", Check.ARGUMENT, () -> x.advance(0, 501));
        Check.same("out after refusals", x.out(), 1);
        x.lot(0, 50, 0);
        Check.fails("26 of 50", Check.ARGUMENT, () -> x.advance(1, 26));
        Check.same("25 of 50", x.advance(1, 25), 25);
        x.lot(0, 1000000, 0);
        Check.same("500000 of 1000000", x.advance(2, 500000), 500000);
        Check.same("out of all", x.out(), 500026);
    }

    private static void advanceInEveryState() {
        DroitLine x = new DroitLine();
        x.lot(0, 1000, 0);
        x.hammer(0);
        Check.same("UNSOLD", x.advance(0, 500), 500);
        x.again(0, 100);
        Check.fails("once, opened again too", Check.STATE, () -> x.advance(0, 50));
        DroitLine y = Check.sold(1000, 0);
        Check.same("SOLD", y.advance(0, 10), 500);
        y.defaults(0);
        Check.fails("once, after a default too", Check.STATE, () -> y.advance(0, 10));
        DroitLine z = new DroitLine();
        z.lot(0, 1000, 0);
        Check.reopen(z, 200);
        Check.fails("by the reserve as it is", Check.ARGUMENT, () -> z.advance(0, 101));
        Check.same("the greatest as it is", z.advance(0, 100), 100);
    }

    private static void advanceChecksItsCall() {
        DroitLine x = Check.paid(1000, 0);
        Check.fails("lot 1", Check.INDEX, () -> x.advance(1, 0));
        Check.fails("lot -1", Check.INDEX, () -> x.advance(-1, 1));
        Check.fails("PAID", Check.STATE, () -> x.advance(0, 500));
        Check.fails("PAID, too much", Check.ARGUMENT, () -> x.advance(0, 501));
        x.settle(0);
        Check.fails("SETTLED", Check.STATE, () -> x.advance(0, 500));
        Check.fails("SETTLED, 0", Check.ARGUMENT, () -> x.advance(0, 0));
        x.lot(0, 0, 0);
        Check.fails("half of 0", Check.ARGUMENT, () -> x.advance(1, 1));
        x.lot(0, 1000000, 0);
        Check.fails("0", Check.ARGUMENT, () -> x.advance(2, 0));
        Check.fails("-1", Check.ARGUMENT, () -> x.advance(2, -1));
        Check.fails("500001", Check.ARGUMENT, () -> x.advance(2, 500001));
        Check.fails("1000001", Check.ARGUMENT, () -> x.advance(2, 1000001));
    }

    private static void settleWithoutAdvance() {
        DroitLine x = Check.paid(20000, DroitLine.LIVES);
        Check.same("price less commission less share", x.settle(0), 20000 - 2000 - 800);
        Check.same("state", x.state(0), DroitLine.SETTLED);
        Check.same("buyer", x.buyerOf(0), 0);
        Check.same("price", x.price(0), 20000);
        Check.same("out has the share", x.out(), 18000);
        Check.same("kept", x.kept(), 2500 + 2000 + 2000);
        DroitLine y = Check.paid(1950, DroitLine.NO_ARTIST);
        y.commission(0, 3);
        Check.same("commission rounded down", y.settle(0), 1900 - 57);
        DroitLine z = Check.paid(150, DroitLine.NO_ARTIST);
        z.commission(0, 33);
        Check.same("commission of 49.5", z.settle(0), 150 - 49);
    }

    private static void settleWithAdvance() {
        DroitLine x = new DroitLine();
        x.days(7);
        x.lot(2, 100000, DroitLine.NO_ARTIST);
        x.advance(0, 40001);
        x.days(100);
        x.rate(33);
        x.bid(0, 1, 1000000);
        x.hammer(0);
        x.pay(0);
        x.days(13);
        Check.same("advance and interest", x.settle(0), 100000 - 10000 - 40001 - 1491);
        Check.same("out", x.out(), 100000 - 10000 - 1491);
        Check.same("kept", x.kept(), 16500 + 10000 + 1491);
        Check.same("held", x.held(), 0);
        DroitLine y = new DroitLine();
        y.lot(2, 1000, DroitLine.NO_ARTIST);
        y.advance(0, 500);
        Check.reopen(y, 0);
        y.bid(0, 0, 50);
        y.hammer(0);
        y.pay(0);
        Check.same("owed by the seller", y.settle(0), 50 - 5 - 500);
        Check.same("paid back at once", y.out(), 45);
        Check.same("held of it", y.held(), 0);
    }

    private static void settleNeedsAPaidLot() {
        DroitLine x = new DroitLine();
        Check.fails("no lot", Check.INDEX, () -> x.settle(0));
        Check.fails("lot -1", Check.INDEX, () -> x.settle(-1));
        x.lot(0, 100, 0);
        Check.fails("OPEN", Check.STATE, () -> x.settle(0));
        x.hammer(0);
        Check.fails("UNSOLD", Check.STATE, () -> x.settle(0));
        DroitLine y = Check.sold(100, 0);
        Check.fails("SOLD", Check.STATE, () -> y.settle(0));
        y.pay(0);
        y.settle(0);
        Check.fails("SETTLED", Check.STATE, () -> y.settle(0));
        Check.same("out once", y.out(), 90);
    }

    private static void commissionOfEachSeller() {
        DroitLine x = new DroitLine();
        Check.same("first", x.commission(5, 50), 10);
        Check.same("then", x.commission(5, 0), 50);
        Check.same("and then", x.commission(5, 7), 0);
        Check.same("another's own", x.commission(4, 9), 10);
        Check.fails("seller -1", Check.INDEX, () -> x.commission(-1, 0));
        Check.fails("seller 6", Check.INDEX, () -> x.commission(6, -1));
        Check.fails("hundredths -1", Check.ARGUMENT, () -> x.commission(5, -1));
        Check.fails("hundredths 51", Check.ARGUMENT, () -> x.commission(5, 51));
        Check.same("as before the refusals", x.commission(5, 7), 7);
        DroitLine y = Check.paid(1000, DroitLine.NO_ARTIST);
        y.commission(0, 50);
        y.commission(1, 20);
        Check.same("for settlings that come", y.settle(0), 500);
        long kept = y.kept();
        y.commission(0, 0);
        Check.same("not for those that were", y.kept(), kept);
    }

    private static void rateOfInterest() {
        DroitLine x = new DroitLine();
        Check.same("first", x.rate(100), 20);
        Check.same("then", x.rate(0), 100);
        Check.fails("rate -1", Check.ARGUMENT, () -> x.rate(-1));
        Check.fails("rate 101", Check.ARGUMENT, () -> x.rate(101));
        Check.same("as before the refusals", x.rate(1), 0);
    }

    private static void daysGoBy() {
        DroitLine x = new DroitLine();
        Check.same("one", x.days(1), 1);
        Check.fails("0", Check.ARGUMENT, () -> x.days(0));
        Check.fails("-1", Check.ARGUMENT, () -> x.days(-1));
        Check.fails("201", Check.ARGUMENT, () -> x.days(201));
        Check.fails("the greatest", Check.ARGUMENT, () -> x.days(Integer.MAX_VALUE));
        Check.same("200", x.days(200), 201);
        Check.passDays(x, 7000);
        Check.fails("7301", Check.STATE, () -> x.days(100));
        Check.same("7300", x.days(99), 7300);
        Check.fails("behind 7300", Check.STATE, () -> x.days(1));
        Check.fails("range before the last day", Check.ARGUMENT, () -> x.days(201));
    }
}
