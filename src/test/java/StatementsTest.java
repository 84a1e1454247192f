/** Promises 16 to 23. */
public final class StatementsTest {
    private StatementsTest() {
    }

    public static void main(String[] args) {
        eachState();
        noSuchLot();
        feeInBands();
        shareInBands();
        shareByTheYearOfDeath();
        shareByTheDayOfTheHammer();
        shareInEachState();
        interestByDaysAndRate();
        interestAtItsGreatest();
        interestStaysAsSettled();
        owesOfEachBuyer();
        Check.end("StatementsTest");
    }

    private static void lotIs(DroitLine x, int state, int buyer, int price, int bids) {
        Check.same("state", x.state(0), state);
        Check.same("buyerOf in state " + state, x.buyerOf(0), buyer);
        Check.same("price in state " + state, x.price(0), price);
        Check.same("bids in state " + state, x.bids(0), bids);
    }

    private static void eachState() {
        DroitLine x = new DroitLine();
        x.lot(0, 500, 0);
        lotIs(x, DroitLine.OPEN, DroitLine.NONE, DroitLine.NONE, 0);
        x.bid(0, 8, 400);
        x.bid(0, 7, 300);
        lotIs(x, DroitLine.OPEN, DroitLine.NONE, DroitLine.NONE, 2);
        x.hammer(0);
        lotIs(x, DroitLine.UNSOLD, DroitLine.NONE, DroitLine.NONE, 2);
        x.again(0, 500);
        lotIs(x, DroitLine.OPEN, DroitLine.NONE, DroitLine.NONE, 0);
        x.bid(0, 9, 600);
        x.hammer(0);
        lotIs(x, DroitLine.SOLD, 9, 500, 1);
        x.defaults(0);
        lotIs(x, DroitLine.OPEN, DroitLine.NONE, DroitLine.NONE, 0);
        x.bid(0, 0, 600);
        x.hammer(0);
        lotIs(x, DroitLine.SOLD, 0, 500, 1);
        x.pay(0);
        lotIs(x, DroitLine.PAID, 0, 500, 1);
        x.settle(0);
        lotIs(x, DroitLine.SETTLED, 0, 500, 1);
    }

    private static void noSuchLot() {
        DroitLine x = new DroitLine();
        x.lot(0, 500, 0);
        int[] none = {-1, 1, 29, 30, Integer.MIN_VALUE, Integer.MAX_VALUE};
        for (int lot : none) {
            Check.fails("state " + lot, Check.INDEX, () -> x.state(lot));
            Check.fails("buyerOf " + lot, Check.INDEX, () -> x.buyerOf(lot));
            Check.fails("price " + lot, Check.INDEX, () -> x.price(lot));
            Check.fails("bids " + lot, Check.INDEX, () -> x.bids(lot));
            Check.fails("share " + lot, Check.INDEX, () -> x.share(lot));
            Check.fails("interest " + lot, Check.INDEX, () -> x.interest(lot));
        }
    }

    private static void feeInBands() {
        DroitLine x = new DroitLine();
        int[] prices = {0, 3, 4, 9999, 10000, 10004, 10005, 49999, 50000, 50008, 50009, 1000000};
        int[] fees = {0, 0, 1, 2499, 2500, 2500, 2501, 10499, 10500, 10500, 10501, 124500};
        for (int i = 0; i < prices.length; i++) {
            Check.same("fee " + prices[i], x.fee(prices[i]), fees[i]);
        }
        Check.fails("fee -1", Check.ARGUMENT, () -> x.fee(-1));
        Check.fails("fee 1000001", Check.ARGUMENT, () -> x.fee(1000001));
    }

    private static int shareAt(int price, int artist) {
        return Check.sold(price, artist).share(0);
    }

    private static void shareInBands() {
        Check.same("950", shareAt(950, DroitLine.LIVES), 0);
        Check.same("1000", shareAt(1000, DroitLine.LIVES), 40);
        Check.same("50000", shareAt(50000, DroitLine.LIVES), 2000);
        Check.same("51000", shareAt(51000, DroitLine.LIVES), 2030);
        Check.same("200000", shareAt(200000, DroitLine.LIVES), 6500);
        Check.same("201000", shareAt(201000, DroitLine.LIVES), 6510);
        Check.same("799000", shareAt(799000, DroitLine.LIVES), 12490);
        Check.same("800000", shareAt(800000, DroitLine.LIVES), 12500);
        Check.same("801000", shareAt(801000, DroitLine.LIVES), 12500);
        Check.same("1000000", shareAt(1000000, DroitLine.LIVES), 12500);
        Check.same("no artist", shareAt(1000000, DroitLine.NO_ARTIST), 0);
    }

    private static void shareByTheYearOfDeath() {
        Check.same("1800", shareAt(1000, 1800), 0);
        Check.same("1929", shareAt(1000, 1929), 0);
        Check.same("1930", shareAt(1000, 1930), 40);
        Check.same("2000", shareAt(1000, 2000), 40);
    }

    private static void shareByTheDayOfTheHammer() {
        DroitLine x = new DroitLine();
        x.lot(0, 1000, 1930);
        x.lot(0, 1000, 1930);
        x.lot(0, 1000, 1931);
        x.lot(0, 1000, 1949);
        x.lot(0, 1000, 1950);
        for (int lot = 0; lot < 5; lot++) {
            x.bid(lot, 0, 1000);
        }
        Check.passDays(x, 364);
        x.hammer(0);
        Check.same("day 364", x.share(0), 40);
        x.days(1);
        x.hammer(1);
        x.hammer(2);
        Check.same("day 365, 1930", x.share(1), 0);
        Check.same("day 365, 1931", x.share(2), 40);
        Check.same("as of the hammer", x.share(0), 40);
        Check.passDays(x, 7300 - 365);
        x.hammer(3);
        x.hammer(4);
        Check.same("day 7300, 1949", x.share(3), 0);
        Check.same("day 7300, 1950", x.share(4), 40);
        x.pay(0);
        Check.same("settled by the hammer's day", x.settle(0), 1000 - 100 - 40);
    }

    private static void shareInEachState() {
        DroitLine x = new DroitLine();
        x.lot(0, 1000, DroitLine.LIVES);
        x.bid(0, 0, 900);
        Check.same("OPEN", x.share(0), 0);
        x.hammer(0);
        Check.same("UNSOLD", x.share(0), 0);
        x.again(0, 1000);
        x.bid(0, 0, 1000);
        x.hammer(0);
        Check.same("SOLD", x.share(0), 40);
        x.defaults(0);
        Check.same("OPEN after a default", x.share(0), 0);
        x.hammer(0);
        Check.same("UNSOLD after a default", x.share(0), 0);
        DroitLine y = Check.paid(1000, DroitLine.LIVES);
        Check.same("PAID", y.share(0), 40);
        y.settle(0);
        Check.same("SETTLED", y.share(0), 40);
    }

    private static void interestByDaysAndRate() {
        DroitLine x = new DroitLine();
        x.lot(0, 10000, 0);
        x.days(3);
        Check.same("without an advance", x.interest(0), 0);
        x.advance(0, 4999);
        Check.same("on its day", x.interest(0), 0);
        x.days(1);
        Check.same("0.9998", x.interest(0), 0);
        x.days(1);
        Check.same("1.9996, not twice the rounded", x.interest(0), 1);
        x.rate(100);
        Check.same("by the rate as it is", x.interest(0), 9);
        x.rate(0);
        Check.same("rate 0", x.interest(0), 0);
        x.rate(100);
        x.bid(0, 0, 10000);
        x.hammer(0);
        x.days(1);
        Check.same("SOLD", x.interest(0), 14);
        x.pay(0);
        x.days(1);
        Check.same("PAID", x.interest(0), 19);
    }

    private static void interestAtItsGreatest() {
        DroitLine x = new DroitLine();
        x.lot(0, 1000000, 0);
        x.advance(0, 500000);
        x.rate(100);
        Check.passDays(x, 7300);
        Check.same("interest", x.interest(0), 3650000);
        Check.reopen(x, 0);
        x.bid(0, 0, 1);
        x.hammer(0);
        x.pay(0);
        Check.same("settle", x.settle(0), -4150000);
        Check.same("interest then", x.interest(0), 3650000);
        Check.same("kept", x.kept(), 3650000);
        Check.same("out", x.out(), -3650000);
    }

    private static void interestStaysAsSettled() {
        DroitLine x = new DroitLine();
        x.lot(0, 10000, 0);
        x.advance(0, 5000);
        x.bid(0, 0, 10000);
        x.hammer(0);
        x.pay(0);
        x.days(10);
        x.settle(0);
        Check.same("at settling", x.interest(0), 10);
        x.days(10);
        Check.same("later", x.interest(0), 10);
        x.rate(100);
        Check.same("by another rate", x.interest(0), 10);
    }

    private static void owesOfEachBuyer() {
        DroitLine x = new DroitLine();
        Check.fails("buyer -1", Check.INDEX, () -> x.owes(-1));
        Check.fails("buyer 10", Check.INDEX, () -> x.owes(10));
        x.lot(0, 1000, 0);
        Check.sellAndDefault(x, 9);
        Check.reopen(x, 400);
        x.bid(0, 0, 1000);
        x.hammer(0);
        x.pay(0);
        for (int buyer = 0; buyer < 10; buyer++) {
            Check.same("owes " + buyer, x.owes(buyer), buyer == 9 ? 600 : 0);
        }
    }
}
