/** Promises 1 to 7. */
public final class LotsAndBidsTest {
    private LotsAndBidsTest() {
    }

    public static void main(String[] args) {
        newObject();
        lotTakesNumbersInTurn();
        lotChecksItsArguments();
        lotRefusesTheThirtyFirst();
        bidIsTakenAsItsCall();
        bidChecksItsArguments();
        bidNeedsAnOpenLot();
        hammerWithOneBid();
        hammerWithSeveralBids();
        hammerBetweenBidsAlike();
        hammerWithoutReserve();
        hammerNeedsAnOpenLot();
        againOpensAnUnsoldLot();
        againChecksItsCall();
        callOfAmounts();
        Check.end("LotsAndBidsTest");
    }

    private static void newObject() {
        DroitLine x = new DroitLine();
        Check.same("lots", x.lots(), 0);
        Check.same("in", x.in(), 0);
        Check.same("out", x.out(), 0);
        Check.same("kept", x.kept(), 0);
        Check.same("held", x.held(), 0);
        Check.same("heldByLots", x.heldByLots(), 0);
        for (int buyer = 0; buyer < 10; buyer++) {
            Check.same("owes", x.owes(buyer), 0);
        }
        for (int seller = 0; seller < 6; seller++) {
            Check.same("first commission", x.commission(seller, 10), 10);
        }
        Check.same("first rate", x.rate(20), 20);
        Check.same("first day", x.days(1), 1);
        Check.fails("no lot 0", Check.INDEX, () -> x.state(0));
    }

    private static void lotTakesNumbersInTurn() {
        DroitLine x = new DroitLine();
        Check.same("first lot", x.lot(0, 0, DroitLine.NO_ARTIST), 0);
        Check.same("second lot", x.lot(5, 1000000, DroitLine.LIVES), 1);
        Check.same("third lot", x.lot(3, 1, 1800), 2);
        Check.same("fourth lot", x.lot(3, 1, 2000), 3);
        Check.same("lots", x.lots(), 4);
        for (int lot = 0; lot < 4; lot++) {
            Check.same("a new lot's state", x.state(lot), DroitLine.OPEN);
            Check.same("a new lot's bids", x.bids(lot), 0);
            Check.same("a new lot's price", x.price(lot), DroitLine.NONE);
            Check.same("a new lot's buyer", x.buyerOf(lot), DroitLine.NONE);
        }
    }

    private static void lotChecksItsArguments() {
        DroitLine x = new DroitLine();
        Check.fails("seller -1", Check.INDEX, () -> x.lot(-1, 0, 0));
        Check.fails("seller 6", Check.INDEX, () -> x.lot(6, -1, 1));
        Check.fails("seller least", Check.INDEX, () -> x.lot(Integer.MIN_VALUE, 0, 0));
        Check.fails("reserve -1", Check.ARGUMENT, () -> x.lot(0, -1, 0));
        Check.fails("reserve 1000001", Check.ARGUMENT, () -> x.lot(0, 1000001, 0));
        Check.fails("artist -2", Check.ARGUMENT, () -> x.lot(0, 0, -2));
        Check.fails("artist 1", Check.ARGUMENT, () -> x.lot(0, 0, 1));
        Check.fails("artist 1799", Check.ARGUMENT, () -> x.lot(0, 0, 1799));
        Check.fails("artist 2001", Check.ARGUMENT, () -> x.lot(0, 0, 2001));
        Check.same("lots after refusals", x.lots(), 0);
    }

    private static void lotRefusesTheThirtyFirst() {
        DroitLine x = new DroitLine();
        for (int number = 0; number < 30; number++) {
            Check.same("lot", x.lot(0, 100, 0), number);
        }
        Check.fails("lot 30", Check.STATE, () -> x.lot(0, 100, 0));
        Check.fails("lot 30, bad reserve", Check.ARGUMENT, () -> x.lot(0, -1, 0));
        Check.fails("lot 30, bad seller", Check.INDEX, () -> x.lot(6, 100, 0));
        Check.same("lots", x.lots(), 30);
        Check.fails("state of lot 30", Check.INDEX, () -> x.state(30));
    }

    private static void bidIsTakenAsItsCall() {
        DroitLine x = new DroitLine();
        x.lot(0, 0, 0);
        Check.same("bid 1", x.bid(0, 0, 1), 0);
        Check.same("bid 999", x.bid(0, 9, 999), 950);
        Check.same("bid 4999", x.bid(0, 1, 4999), 4900);
        Check.same("bid 19999", x.bid(0, 2, 19999), 19500);
        Check.same("bid 1000000", x.bid(0, 3, 1000000), 1000000);
        Check.same("bids", x.bids(0), 5);
        Check.same("a later bid", x.bid(0, 3, 50), 50);
        Check.same("bids by each buyer one", x.bids(0), 5);
    }

    private static void bidChecksItsArguments() {
        DroitLine x = new DroitLine();
        Check.fails("no lot yet", Check.INDEX, () -> x.bid(0, 0, 0));
        x.lot(0, 0, 0);
        Check.fails("lot -1", Check.INDEX, () -> x.bid(-1, 0, 100));
        Check.fails("lot 1", Check.INDEX, () -> x.bid(1, 0, 100));
        Check.fails("lot greatest", Check.INDEX, () -> x.bid(Integer.MAX_VALUE, 0, 100));
        Check.fails("buyer -1", Check.INDEX, () -> x.bid(0, -1, 100));
        Check.fails("buyer 10", Check.INDEX, () -> x.bid(0, 10, 0));
        Check.fails("amount 0", Check.ARGUMENT, () -> x.bid(0, 0, 0));
        Check.fails("amount 1000001", Check.ARGUMENT, () -> x.bid(0, 0, 1000001));
        Check.same("bids after refusals", x.bids(0), 0);
    }

    private static void bidNeedsAnOpenLot() {
        DroitLine x = Check.sold(100, 0);
        Check.fails("bid for a SOLD lot", Check.STATE, () -> x.bid(0, 1, 100));
        Check.fails("amount before state", Check.ARGUMENT, () -> x.bid(0, 1, 0));
        Check.fails("buyer before state", Check.INDEX, () -> x.bid(0, 10, 100));
        x.pay(0);
        Check.fails("bid for a PAID lot", Check.STATE, () -> x.bid(0, 1, 100));
        x.settle(0);
        Check.fails("bid for a SETTLED lot", Check.STATE, () -> x.bid(0, 1, 100));
        x.lot(0, 100, 0);
        x.hammer(1);
        Check.fails("bid for an UNSOLD lot", Check.STATE, () -> x.bid(1, 1, 100));
        Check.same("bids as they were", x.bids(0), 1);
    }

    private static void hammerWithOneBid() {
        DroitLine x = new DroitLine();
        x.lot(0, 599, 0);
        x.bid(0, 4, 2000);
        Check.same("sold at the reserve's call", x.hammer(0), 550);
        Check.same("state", x.state(0), DroitLine.SOLD);
        Check.same("buyer", x.buyerOf(0), 4);
        x.lot(0, 550, 0);
        x.bid(1, 5, 599);
        Check.same("a bid of just the reserve", x.hammer(1), 550);
        x.lot(0, 550, 0);
        x.bid(2, 5, 549);
        Check.same("a bid below the reserve", x.hammer(2), DroitLine.NONE);
        Check.same("its state", x.state(2), DroitLine.UNSOLD);
        Check.same("its buyer", x.buyerOf(2), DroitLine.NONE);
        Check.same("its price", x.price(2), DroitLine.NONE);
        Check.same("its bids", x.bids(2), 1);
        x.lot(0, 550, 0);
        Check.same("no bid", x.hammer(3), DroitLine.NONE);
    }

    private static int priceOfTwo(int reserve, int first, int second) {
        DroitLine x = new DroitLine();
        x.lot(0, reserve, 0);
        x.bid(0, 0, first);
        x.bid(0, 1, second);
        return x.hammer(0);
    }

    private static void hammerWithSeveralBids() {
        Check.same("one step above the other", priceOfTwo(100, 800, 500), 550);
        Check.same("the other may come later", priceOfTwo(100, 500, 800), 550);
        Check.same("step of the other's band", priceOfTwo(100, 5000, 950), 1000);
        Check.same("step from 1000 on", priceOfTwo(100, 5000, 1000), 1100);
        Check.same("step below 5000", priceOfTwo(100, 9000, 4900), 5000);
        Check.same("step from 5000 on", priceOfTwo(100, 9000, 5000), 5500);
        Check.same("step from 20000 on", priceOfTwo(100, 90000, 20000), 21000);
        Check.same("at least the reserve", priceOfTwo(700, 800, 500), 700);
        Check.same("at most the bid", priceOfTwo(100, 5500, 5400), 5500);
        Check.same("at the top", priceOfTwo(100, 1000000, 1000000), 1000000);
        DroitLine x = new DroitLine();
        x.lot(0, 100, 0);
        x.bid(0, 0, 300);
        x.bid(0, 1, 900);
        x.bid(0, 2, 600);
        x.bid(0, 3, 100);
        Check.same("the highest of the others", x.hammer(0), 650);
        Check.same("buyer", x.buyerOf(0), 1);
        Check.same("bids stay", x.bids(0), 4);
    }

    private static void hammerBetweenBidsAlike() {
        DroitLine x = new DroitLine();
        x.lot(0, 100, 0);
        x.bid(0, 7, 849);
        x.bid(0, 2, 800);
        Check.same("price of two alike", x.hammer(0), 800);
        Check.same("left first", x.buyerOf(0), 7);
        x.lot(0, 100, 0);
        x.bid(1, 7, 100);
        x.bid(1, 2, 800);
        x.bid(1, 7, 800);
        Check.same("price", x.hammer(1), 800);
        Check.same("a later bid keeps its place in time", x.buyerOf(1), 7);
        x.lot(0, 100, 0);
        x.bid(2, 7, 800);
        x.bid(2, 2, 500);
        x.bid(2, 7, 200);
        Check.same("a lower bid replaces too", x.hammer(2), 250);
        Check.same("its buyer", x.buyerOf(2), 2);
    }

    private static int priceOfOneWithoutReserve(int amount) {
        DroitLine x = new DroitLine();
        x.lot(0, 49, 0);
        x.bid(0, 6, amount);
        int price = x.hammer(0);
        Check.same("buyer without reserve", x.buyerOf(0), 6);
        return price;
    }

    private static void hammerWithoutReserve() {
        Check.same("single bid", priceOfOneWithoutReserve(3000), 50);
        Check.same("single bid of 50", priceOfOneWithoutReserve(50), 50);
        Check.same("single bid of 0", priceOfOneWithoutReserve(49), 0);
        Check.same("two bids", priceOfTwo(0, 3000, 500), 550);
        Check.same("two bids of 0", priceOfTwo(0, 1, 2), 0);
        Check.same("another of 0", priceOfTwo(0, 400, 2), 50);
        DroitLine x = new DroitLine();
        x.lot(0, 0, 0);
        Check.same("no bid at all", x.hammer(0), DroitLine.NONE);
        Check.same("state", x.state(0), DroitLine.UNSOLD);
    }

    private static void hammerNeedsAnOpenLot() {
        DroitLine x = Check.sold(100, 0);
        Check.fails("no such lot", Check.INDEX, () -> x.hammer(1));
        Check.fails("lot -1", Check.INDEX, () -> x.hammer(-1));
        Check.fails("SOLD", Check.STATE, () -> x.hammer(0));
        x.pay(0);
        Check.fails("PAID", Check.STATE, () -> x.hammer(0));
        x.settle(0);
        Check.fails("SETTLED", Check.STATE, () -> x.hammer(0));
        x.lot(0, 100, 0);
        x.hammer(1);
        Check.fails("UNSOLD", Check.STATE, () -> x.hammer(1));
    }

    private static void againOpensAnUnsoldLot() {
        DroitLine x = new DroitLine();
        x.lot(0, 1000, 0);
        x.bid(0, 3, 600);
        x.bid(0, 8, 600);
        x.hammer(0);
        Check.same("bids gone", x.again(0, 649), 2);
        Check.same("state", x.state(0), DroitLine.OPEN);
        Check.same("bids", x.bids(0), 0);
        x.bid(0, 8, 700);
        x.bid(0, 3, 700);
        Check.same("price", x.hammer(0), 700);
        Check.same("places in time are new", x.buyerOf(0), 8);
        x.lot(0, 1000, 0);
        x.hammer(1);
        Check.same("no bids gone", x.again(1, 649), 0);
        x.bid(1, 8, 700);
        Check.same("the new reserve's call", x.hammer(1), 600);
        x.lot(0, 0, 0);
        x.hammer(2);
        Check.same("up to 1000000", x.again(2, 1000000), 0);
        x.bid(2, 0, 999999);
        Check.same("the new reserve binds", x.hammer(2), DroitLine.NONE);
        Check.same("one gone", x.again(2, 0), 1);
    }

    private static void againChecksItsCall() {
        DroitLine x = new DroitLine();
        Check.fails("no lot", Check.INDEX, () -> x.again(0, -1));
        x.lot(0, 1000, 0);
        x.bid(0, 0, 100);
        Check.fails("OPEN", Check.STATE, () -> x.again(0, 100));
        Check.fails("reserve before state", Check.ARGUMENT, () -> x.again(0, 1000001));
        x.hammer(0);
        Check.fails("lot -1", Check.INDEX, () -> x.again(-1, 100));
        Check.fails("reserve -1", Check.ARGUMENT, () -> x.again(0, -1));
        Check.fails("reserve 1000001", Check.ARGUMENT, () -> x.again(0, 1000001));
        Check.same("still UNSOLD", x.state(0), DroitLine.UNSOLD);
        Check.same("still its bid", x.bids(0), 1);
        DroitLine y = Check.sold(100, 0);
        Check.fails("SOLD", Check.STATE, () -> y.again(0, 100));
        y.pay(0);
        Check.fails("PAID", Check.STATE, () -> y.again(0, 100));
        y.settle(0);
        Check.fails("SETTLED", Check.STATE, () -> y.again(0, 100));
    }

    private static void callOfAmounts() {
        DroitLine x = new DroitLine();
        int[] amounts = {0, 49, 50, 99, 999, 1000, 1099, 1100, 4999, 5000, 5499, 5500, 19999, 20000, 20999,
            21000, 999999, 1000000};
        int[] calls = {0, 0, 50, 50, 950, 1000, 1000, 1100, 4900, 5000, 5000, 5500, 19500, 20000, 20000,
            21000, 999000, 1000000};
        for (int i = 0; i < amounts.length; i++) {
            Check.same("callOf " + amounts[i], x.callOf(amounts[i]), calls[i]);
        }
        Check.fails("callOf -1", Check.ARGUMENT, () -> x.callOf(-1));
        Check.fails("callOf 1000001", Check.ARGUMENT, () -> x.callOf(1000001));
    }
}
