/**
 * Each line of promises 1 to 28 that names a boundary case, at that boundary: the ranges of the
 * arguments, what is returned then, and every exception. That a refused call changes nothing, and
 * which of several exceptions comes first, is in RefusedCallsTest.
 */
public final class PromisesEdgesTest {
    private interface LotCall {
        long answer(DroitLine house, int lot);
    }

    private static final int OPEN = DroitLine.OPEN;
    private static final int UNSOLD = DroitLine.UNSOLD;
    private static final int SOLD = DroitLine.SOLD;
    private static final int PAID = DroitLine.PAID;
    private static final int SETTLED = DroitLine.SETTLED;
    private static final int NONE = DroitLine.NONE;
    private static final int NO_ARTIST = DroitLine.NO_ARTIST;
    private static final int LIVES = DroitLine.LIVES;
    private static final int TOP = 1000000;
    private static final int LEAST_INT = Integer.MIN_VALUE;
    private static final int GREATEST_INT = Integer.MAX_VALUE;

    private PromisesEdgesTest() {
    }

    public static void main(String[] args) {
        aHouseWithoutLots();
        lotSeller();
        lotReserve();
        lotArtist();
        lotInAFullHouse();
        bidLot();
        bidBuyer();
        bidAmount();
        bidState();
        hammerLot();
        hammerState();
        hammerReturns();
        againLot();
        againReserve();
        againState();
        againReturns();
        lotsReturns();
        callOfAmount();
        payLot();
        payState();
        defaultsLot();
        defaultsState();
        defaultsReturns();
        payGapsBuyer();
        payGapsNothing();
        advanceLot();
        advanceAmount();
        advanceState();
        advanceReturns();
        settleLot();
        settleState();
        settleReturns();
        commissionSeller();
        commissionHundredths();
        commissionForSettlingsThatCome();
        rateRange();
        daysRange();
        daysLast();
        stateOfLots();
        buyerOfLots();
        priceOfLots();
        bidsOfLots();
        feePrice();
        shareOfLots();
        interestOfLots();
        interestUpToSettling();
        owesBuyer();
        moneyOfAnEmptyHouse();
        heldByLotsOfEachState();
        Check.end("PromisesEdgesTest");
    }

    /** There is no such lot: of no lots, of one, and of a full house, at each side of them. */
    private static void needsALot(String name, LotCall call) {
        DroitLine empty = new DroitLine();
        for (int lot : new int[] {LEAST_INT, -1, 0, 1, 29, 30, GREATEST_INT}) {
            Check.fails(name + " of lot " + lot + ", no lots", Check.INDEX, () -> call.answer(empty, lot));
        }
        DroitLine small = Check.open(1000, LIVES);
        for (int lot : new int[] {LEAST_INT, -1, 1, 29, 30, GREATEST_INT}) {
            Check.fails(name + " of lot " + lot + ", one lot", Check.INDEX, () -> call.answer(small, lot));
        }
        DroitLine full = full();
        for (int lot : new int[] {LEAST_INT, -1, 30, 31, GREATEST_INT}) {
            Check.fails(name + " of lot " + lot + ", 30 lots", Check.INDEX, () -> call.answer(full, lot));
        }
    }

    private static DroitLine full() {
        DroitLine house = new DroitLine();
        for (int lot = 0; lot < 30; lot++) {
            house.lot(lot % 6, 1000, LIVES);
        }
        return house;
    }

    /** The call goes in the states told, and is refused in the others. */
    private static void needsAState(String name, LotCall call, int... states) {
        for (int state = OPEN; state <= SETTLED; state++) {
            DroitLine house = Check.inState(state);
            Check.same("the state of the scene", house.state(0), state);
            boolean goes = false;
            for (int one : states) {
                goes |= one == state;
            }
            if (goes) {
                call.answer(house, 0);
            } else {
                Check.fails(name + " in state " + state, Check.STATE, () -> call.answer(house, 0));
            }
        }
    }

    private static void aHouseWithoutLots() {
        Check.sentence("Promise 1: Makes a house without lots");
        DroitLine x = new DroitLine();
        Check.same("lots", x.lots(), 0);
        Check.fails("lot 0", Check.INDEX, () -> x.state(0));
        DroitLine full = full();
        Check.same("lots of a full house", full.lots(), 30);
        Check.same("lots of a house beside it", x.lots(), 0);
        Check.same("lots of a house made after it", new DroitLine().lots(), 0);
    }

    private static void lotSeller() {
        Check.sentence("Promise 2: IndexOutOfBoundsException if there is no such seller; 0 to 5");
        DroitLine x = new DroitLine();
        for (int seller : new int[] {LEAST_INT, -1, 6, 9, GREATEST_INT}) {
            Check.fails("seller " + seller, Check.INDEX, () -> x.lot(seller, 0, NO_ARTIST));
        }
        for (int seller = 0; seller < 6; seller++) {
            DroitLine y = new DroitLine();
            y.lot(seller, 1000, NO_ARTIST);
            for (int other = 0; other < 6; other++) {
                y.commission(other, other == seller ? 50 : 0);
            }
            y.bid(0, 0, 1000);
            y.hammer(0);
            y.pay(0);
            Check.same("commission of seller " + seller, y.settle(0), 500);
        }
    }

    private static void lotReserve() {
        Check.sentence("Promise 2: reserve: 0 to 1000000; its call is the reserve; IllegalArgumentException if reserve"
                + " is out of its range");
        DroitLine x = new DroitLine();
        for (int reserve : new int[] {LEAST_INT, -1, TOP + 1, GREATEST_INT}) {
            Check.fails("reserve " + reserve, Check.ARGUMENT, () -> x.lot(0, reserve, NO_ARTIST));
        }
        int[] reserves = {0, 1, 49, 50, 999, 1000, 1099, 4999, 5000, 5499, 19999, 20000, 20999, 999999, TOP};
        int[] calls = {0, 0, 0, 50, 950, 1000, 1000, 4900, 5000, 5000, 19500, 20000, 20000, 999000, TOP};
        for (int lot = 0; lot < reserves.length; lot++) {
            Check.same("number", x.lot(0, reserves[lot], NO_ARTIST), lot);
            x.bid(lot, 0, TOP);
            Check.same("price at the reserve " + reserves[lot], x.hammer(lot), Math.max(50, calls[lot]));
        }
    }

    private static void lotArtist() {
        Check.sentence("Promise 2: artist: NO_ARTIST, LIVES, or 1800 to 2000; IllegalArgumentException if artist is"
                + " out of its range");
        DroitLine x = new DroitLine();
        for (int artist : new int[] {LEAST_INT, -2, 1, 2, 1799, 2001, GREATEST_INT}) {
            Check.fails("artist " + artist, Check.ARGUMENT, () -> x.lot(0, 0, artist));
        }
        Check.same("no lot", x.lots(), 0);
        int[] artists = {NO_ARTIST, LIVES, 1800, 1801, 1999, 2000};
        int[] shares = {0, 40, 0, 0, 40, 40};
        for (int lot = 0; lot < artists.length; lot++) {
            Check.same("number", x.lot(0, 1000, artists[lot]), lot);
            x.bid(lot, 0, 1000);
            x.hammer(lot);
            Check.same("share of artist " + artists[lot], x.share(lot), shares[lot]);
        }
    }

    private static void lotInAFullHouse() {
        Check.sentence("Promise 2: IllegalStateException if there are 30 lots");
        DroitLine x = new DroitLine();
        for (int lot = 0; lot < 30; lot++) {
            Check.same("number", x.lot(0, 0, NO_ARTIST), lot);
        }
        Check.fails("a 31st", Check.STATE, () -> x.lot(0, 0, NO_ARTIST));
        x.bid(0, 0, 100);
        x.hammer(0);
        x.pay(0);
        x.settle(0);
        Check.fails("a SETTLED lot makes no room", Check.STATE, () -> x.lot(0, 0, NO_ARTIST));
        Check.same("lots", x.lots(), 30);
    }

    private static void bidLot() {
        Check.sentence("Promise 3: IndexOutOfBoundsException if there is no such lot");
        needsALot("bid", (x, lot) -> x.bid(lot, 0, 100));
        DroitLine x = full();
        Check.same("bid for lot 29", x.bid(29, 0, 100), 100);
        Check.same("bids of lot 29", x.bids(29), 1);
        Check.same("bids of lot 28", x.bids(28), 0);
    }

    private static void bidBuyer() {
        Check.sentence("Promise 3: IndexOutOfBoundsException if there is no such buyer; 0 to 9");
        DroitLine x = Check.open(50, NO_ARTIST);
        for (int buyer : new int[] {LEAST_INT, -1, 10, 11, GREATEST_INT}) {
            Check.fails("buyer " + buyer, Check.INDEX, () -> x.bid(0, buyer, 100));
        }
        Check.same("bids", x.bids(0), 0);
        for (int buyer = 0; buyer < 10; buyer++) {
            DroitLine y = Check.open(50, NO_ARTIST);
            y.bid(0, buyer, 100);
            y.hammer(0);
            Check.same("buyer", y.buyerOf(0), buyer);
        }
    }

    private static void bidAmount() {
        Check.sentence("Promise 3: amount: 1 to 1000000; IllegalArgumentException if amount is out of its range;"
                + " Returns the bid as it is taken");
        DroitLine x = Check.open(50, NO_ARTIST);
        for (int amount : new int[] {LEAST_INT, -1, 0, TOP + 1, GREATEST_INT}) {
            Check.fails("amount " + amount, Check.ARGUMENT, () -> x.bid(0, 0, amount));
        }
        Check.same("bids", x.bids(0), 0);
        Check.same("the least", x.bid(0, 0, 1), 0);
        Check.same("bids with one of 0", x.bids(0), 1);
        Check.same("the greatest", x.bid(0, 0, TOP), TOP);
        Check.same("just below the greatest", x.bid(0, 0, TOP - 1), 999000);
    }

    private static void bidState() {
        Check.sentence("Promise 3: IllegalStateException if the lot is not OPEN");
        needsAState("bid", (x, lot) -> x.bid(lot, 1, 100), OPEN);
        needsAState("bid by who has left one", (x, lot) -> x.bid(lot, 0, 100), OPEN);
    }

    private static void hammerLot() {
        Check.sentence("Promise 4: IndexOutOfBoundsException if there is no such lot");
        needsALot("hammer", (x, lot) -> x.hammer(lot));
        DroitLine x = full();
        Check.same("hammer for lot 29", x.hammer(29), NONE);
        Check.same("state of lot 29", x.state(29), UNSOLD);
        Check.same("state of lot 28", x.state(28), OPEN);
    }

    private static void hammerState() {
        Check.sentence("Promise 4: IllegalStateException if it is not OPEN");
        needsAState("hammer", (x, lot) -> x.hammer(lot), OPEN);
    }

    private static void hammerReturns() {
        Check.sentence("Promise 4: Returns the price; NONE if it is UNSOLD");
        DroitLine x = Check.open(1000, NO_ARTIST);
        x.bid(0, 0, 950);
        Check.same("UNSOLD", x.hammer(0), -1);
        x.again(0, 0);
        x.bid(0, 0, 49);
        Check.same("SOLD for 0", x.hammer(0), 0);
        DroitLine y = Check.open(1000, NO_ARTIST);
        y.bid(0, 0, 1000);
        Check.same("SOLD for 1000", y.hammer(0), 1000);
    }

    private static void againLot() {
        Check.sentence("Promise 5: IndexOutOfBoundsException if there is no such lot");
        needsALot("again", (x, lot) -> x.again(lot, 100));
        DroitLine x = full();
        x.hammer(29);
        x.hammer(28);
        Check.same("again for lot 29", x.again(29, 100), 0);
        Check.same("state of lot 29", x.state(29), OPEN);
        Check.same("state of lot 28", x.state(28), UNSOLD);
    }

    private static void againReserve() {
        Check.sentence("Promise 5: reserve: 0 to 1000000; its call is the reserve; IllegalArgumentException if reserve"
                + " is out of its range");
        DroitLine x = Check.inState(UNSOLD);
        for (int reserve : new int[] {LEAST_INT, -1, TOP + 1, GREATEST_INT}) {
            Check.fails("reserve " + reserve, Check.ARGUMENT, () -> x.again(0, reserve));
        }
        Check.same("still UNSOLD", x.state(0), UNSOLD);
        int[] reserves = {0, 49, 50, 999, 1000, 4999, 5000, 19999, 20000, 999999, TOP};
        int[] calls = {50, 50, 50, 950, 1000, 4900, 5000, 19500, 20000, 999000, TOP};
        for (int i = 0; i < reserves.length; i++) {
            DroitLine y = Check.inState(UNSOLD);
            y.again(0, reserves[i]);
            y.bid(0, 0, TOP);
            Check.same("price at the reserve " + reserves[i], y.hammer(0), calls[i]);
        }
    }

    private static void againState() {
        Check.sentence("Promise 5: IllegalStateException if it is not UNSOLD");
        needsAState("again", (x, lot) -> x.again(lot, 100), UNSOLD);
    }

    private static void againReturns() {
        Check.sentence("Promise 5: Returns how many bids are gone by that");
        for (int bids = 0; bids <= 10; bids++) {
            DroitLine x = Check.open(1000, NO_ARTIST);
            for (int buyer = 0; buyer < bids; buyer++) {
                x.bid(0, buyer, 900);
                x.bid(0, buyer, 950);
            }
            x.hammer(0);
            Check.same("gone", x.again(0, 1000), bids);
            Check.same("left", x.bids(0), 0);
        }
    }

    private static void lotsReturns() {
        Check.sentence("Promise 6: Returns the number of lots");
        DroitLine x = new DroitLine();
        Check.same("none", x.lots(), 0);
        for (int lot = 0; lot < 30; lot++) {
            x.lot(0, 50, NO_ARTIST);
            Check.same("after lot " + lot, x.lots(), lot + 1);
        }
        x.bid(29, 0, 50);
        x.hammer(29);
        x.pay(29);
        x.settle(29);
        Check.same("SETTLED ones included", x.lots(), 30);
    }

    private static void callOfAmount() {
        Check.sentence("Promise 7: amount: 0 to 1000000; IllegalArgumentException if amount is out of its range");
        DroitLine x = new DroitLine();
        for (int amount : new int[] {LEAST_INT, -50, -1, TOP + 1, GREATEST_INT}) {
            Check.fails("amount " + amount, Check.ARGUMENT, () -> x.callOf(amount));
        }
        Check.same("the least", x.callOf(0), 0);
        Check.same("the greatest", x.callOf(TOP), TOP);
    }

    private static void payLot() {
        Check.sentence("Promise 8: IndexOutOfBoundsException if there is no such lot");
        needsALot("pay", (x, lot) -> x.pay(lot));
        DroitLine x = full();
        x.bid(29, 0, 1000);
        x.hammer(29);
        Check.same("pay for lot 29", x.pay(29), 1250);
    }

    private static void payState() {
        Check.sentence("Promise 8: IllegalStateException if it is not SOLD");
        needsAState("pay", (x, lot) -> x.pay(lot), SOLD);
        DroitLine x = Check.inState(SOLD);
        x.defaults(0);
        Check.fails("after a default", Check.STATE, () -> x.pay(0));
    }

    private static void defaultsLot() {
        Check.sentence("Promise 9: IndexOutOfBoundsException if there is no such lot");
        needsALot("defaults", (x, lot) -> x.defaults(lot));
        DroitLine x = full();
        x.bid(29, 9, 1000);
        x.hammer(29);
        Check.same("defaults of lot 29", x.defaults(29), 9);
    }

    private static void defaultsState() {
        Check.sentence("Promise 9: IllegalStateException if it is not SOLD");
        needsAState("defaults", (x, lot) -> x.defaults(lot), SOLD);
        DroitLine x = Check.inState(SOLD);
        x.defaults(0);
        Check.fails("twice", Check.STATE, () -> x.defaults(0));
    }

    private static void defaultsReturns() {
        Check.sentence("Promise 9: Returns the buyer");
        for (int buyer = 0; buyer < 10; buyer++) {
            DroitLine x = Check.open(1000, NO_ARTIST);
            Check.sellAndDefault(x, 9 - buyer);
            x.bid(0, buyer, 1000);
            x.hammer(0);
            Check.same("the buyer of now, not of the first time", x.defaults(0), buyer);
        }
    }

    private static DroitLine withDebtOf(int buyer) {
        DroitLine x = Check.open(1000, NO_ARTIST);
        Check.sellAndDefault(x, buyer);
        Check.reopen(x, 400);
        x.bid(0, (buyer + 1) % 10, 400);
        x.hammer(0);
        x.pay(0);
        return x;
    }

    private static void payGapsBuyer() {
        Check.sentence("Promise 10: IndexOutOfBoundsException if there is no such buyer; 0 to 9");
        DroitLine x = withDebtOf(9);
        for (int buyer : new int[] {LEAST_INT, -1, 10, GREATEST_INT}) {
            Check.fails("buyer " + buyer, Check.INDEX, () -> x.payGaps(buyer));
        }
        for (int buyer = 0; buyer < 10; buyer++) {
            Check.same("payment of buyer " + buyer, withDebtOf(buyer).payGaps(buyer), 600);
        }
    }

    private static void payGapsNothing() {
        Check.sentence("Promise 10: IllegalStateException if nothing is owed");
        DroitLine x = withDebtOf(9);
        for (int buyer = 0; buyer < 9; buyer++) {
            int other = buyer;
            Check.fails("buyer " + buyer, Check.STATE, () -> x.payGaps(other));
        }
        Check.same("buyer 9", x.payGaps(9), 600);
        Check.fails("buyer 9 again", Check.STATE, () -> x.payGaps(9));
        DroitLine y = Check.open(1000, NO_ARTIST);
        Check.sellAndDefault(y, 9);
        Check.fails("a gap that is open", Check.STATE, () -> y.payGaps(9));
    }

    private static void advanceLot() {
        Check.sentence("Promise 11: IndexOutOfBoundsException if there is no such lot");
        needsALot("advance", (x, lot) -> x.advance(lot, 1));
        DroitLine x = full();
        Check.same("advance for lot 29", x.advance(29, 500), 500);
    }

    private static void advanceAmount() {
        Check.sentence("Promise 11: amount: 1 to 1000000; IllegalArgumentException if amount is out of its range, or"
                + " more than half of the reserve");
        DroitLine x = Check.open(TOP, NO_ARTIST);
        for (int amount : new int[] {LEAST_INT, -1, 0, 500001, TOP, TOP + 1, GREATEST_INT}) {
            Check.fails("amount " + amount, Check.ARGUMENT, () -> x.advance(0, amount));
        }
        Check.same("out", x.out(), 0);
        Check.same("the least", x.advance(0, 1), 500000);
        Check.same("out of the least", x.out(), 1);
        DroitLine y = Check.open(TOP, NO_ARTIST);
        Check.same("the greatest", y.advance(0, 500000), 500000);
        Check.same("out of the greatest", y.out(), 500000);
        DroitLine z = Check.open(0, NO_ARTIST);
        Check.fails("1, without reserve", Check.ARGUMENT, () -> z.advance(0, 1));
        Check.fails("0, without reserve", Check.ARGUMENT, () -> z.advance(0, 0));
    }

    private static void advanceState() {
        Check.sentence("Promise 11: IllegalStateException if the lot is PAID or SETTLED, or there was an advance for"
                + " it");
        needsAState("advance", (x, lot) -> x.advance(lot, 500), OPEN, UNSOLD, SOLD);
        DroitLine x = Check.inState(OPEN);
        x.advance(0, 1);
        Check.fails("a second one", Check.STATE, () -> x.advance(0, 1));
        x.bid(0, 0, 1000);
        x.hammer(0);
        x.pay(0);
        Check.fails("a second one, PAID", Check.STATE, () -> x.advance(0, 1));
    }

    private static void advanceReturns() {
        Check.sentence("Promise 11: Returns the greatest advance that could have been paid");
        Check.same("of 50", Check.open(50, NO_ARTIST).advance(0, 1), 25);
        Check.same("of 1000", Check.open(1000, NO_ARTIST).advance(0, 250), 500);
        Check.same("of the top", Check.open(TOP, NO_ARTIST).advance(0, 500000), 500000);
    }

    private static void settleLot() {
        Check.sentence("Promise 12: IndexOutOfBoundsException if there is no such lot");
        needsALot("settle", (x, lot) -> x.settle(lot));
        DroitLine x = full();
        x.bid(29, 0, 1000);
        x.hammer(29);
        x.pay(29);
        Check.same("settling of lot 29", x.settle(29), 860);
    }

    private static void settleState() {
        Check.sentence("Promise 12: IllegalStateException if it is not PAID");
        needsAState("settle", (x, lot) -> x.settle(lot), PAID);
    }

    private static int settledAt(int price) {
        DroitLine x = Check.open(1000, NO_ARTIST);
        x.advance(0, 90);
        Check.reopen(x, price);
        x.bid(0, 0, price);
        x.hammer(0);
        x.pay(0);
        return x.settle(0);
    }

    private static void settleReturns() {
        Check.sentence("Promise 12: Returns what the seller gets, below 0 if it is owed");
        Check.same("below 0", settledAt(50), -45);
        Check.same("just 0", settledAt(100), 0);
        Check.same("above 0", settledAt(150), 45);
    }

    private static void commissionSeller() {
        Check.sentence("Promise 13: IndexOutOfBoundsException if there is no such seller; 0 to 5");
        DroitLine x = new DroitLine();
        for (int seller : new int[] {LEAST_INT, -1, 6, GREATEST_INT}) {
            Check.fails("seller " + seller, Check.INDEX, () -> x.commission(seller, 10));
        }
        for (int seller = 0; seller < 6; seller++) {
            Check.same("first of seller " + seller, x.commission(seller, seller), 10);
        }
        for (int seller = 0; seller < 6; seller++) {
            Check.same("then of seller " + seller, x.commission(seller, 10), seller);
        }
    }

    private static void commissionHundredths() {
        Check.sentence("Promise 13: hundredths: 0 to 50; IllegalArgumentException if hundredths is out of its range;"
                + " Returns the commission before");
        DroitLine x = new DroitLine();
        for (int hundredths : new int[] {LEAST_INT, -1, 51, 100, GREATEST_INT}) {
            Check.fails("hundredths " + hundredths, Check.ARGUMENT, () -> x.commission(0, hundredths));
        }
        Check.same("the least", x.commission(0, 0), 10);
        Check.same("the greatest", x.commission(0, 50), 0);
        Check.same("the same again", x.commission(0, 50), 50);
        Check.same("and another", x.commission(0, 10), 50);
    }

    private static void commissionForSettlingsThatCome() {
        Check.sentence("Promise 13: Sets the commission of a seller, for settlings that come");
        DroitLine x = full();
        for (int lot = 0; lot < 12; lot += 6) {
            x.bid(lot, 0, 1000);
            x.hammer(lot);
            x.pay(lot);
        }
        Check.same("settled before", x.settle(0), 1000 - 100 - 40);
        x.commission(0, 50);
        Check.same("kept of what was settled before", x.kept(), 250 + 250 + 100);
        Check.same("PAID before, settled after", x.settle(6), 1000 - 500 - 40);
        Check.same("kept of both", x.kept(), 250 + 250 + 100 + 500);
    }

    private static void rateRange() {
        Check.sentence("Promise 14: rate: 0 to 100; IllegalArgumentException if rate is out of its range; Returns the"
                + " rate before");
        DroitLine x = new DroitLine();
        for (int rate : new int[] {LEAST_INT, -1, 101, GREATEST_INT}) {
            Check.fails("rate " + rate, Check.ARGUMENT, () -> x.rate(rate));
        }
        Check.same("the least", x.rate(0), 20);
        Check.same("the greatest", x.rate(100), 0);
        Check.same("the same again", x.rate(100), 100);
        Check.same("and another", x.rate(1), 100);
    }

    private static void daysRange() {
        Check.sentence("Promise 15: days: 1 to 200; IllegalArgumentException if days is out of its range; Returns the"
                + " day then");
        DroitLine x = new DroitLine();
        for (int days : new int[] {LEAST_INT, -1, 0, 201, 7300, GREATEST_INT}) {
            Check.fails("days " + days, Check.ARGUMENT, () -> x.days(days));
        }
        Check.same("the least", x.days(1), 1);
        Check.same("the greatest", x.days(200), 201);
    }

    private static void daysLast() {
        Check.sentence("Promise 15: IllegalStateException if it would be above 7300");
        for (int last : new int[] {1, 2, 199, 200}) {
            DroitLine x = new DroitLine();
            Check.passDays(x, 7300 - last);
            if (last < 200) {
                Check.fails("one too many", Check.STATE, () -> x.days(last + 1));
            }
            Check.same("just up to the last", x.days(last), 7300);
            Check.fails("1 behind the last", Check.STATE, () -> x.days(1));
            Check.fails("200 behind the last", Check.STATE, () -> x.days(200));
        }
    }

    private static void stateOfLots() {
        Check.sentence("Promise 16: Returns OPEN, UNSOLD, SOLD, PAID or SETTLED; IndexOutOfBoundsException if there is"
                + " no such lot");
        needsALot("state", (x, lot) -> x.state(lot));
        Check.same("OPEN", Check.inState(OPEN).state(0), 0);
        Check.same("UNSOLD", Check.inState(UNSOLD).state(0), 1);
        Check.same("SOLD", Check.inState(SOLD).state(0), 2);
        Check.same("PAID", Check.inState(PAID).state(0), 3);
        Check.same("SETTLED", Check.inState(SETTLED).state(0), 4);
        Check.same("of lot 29", full().state(29), 0);
    }

    /** What a statement answers in each state, OPEN first, and then after a default and again. */
    private static void answersByState(String name, LotCall call, int... due) {
        for (int state = OPEN; state <= SETTLED; state++) {
            Check.same(name + " in state " + state, call.answer(Check.inState(state), 0), due[state]);
        }
        DroitLine x = Check.inState(SOLD);
        x.defaults(0);
        Check.same(name + " after a default", call.answer(x, 0), due[OPEN]);
        DroitLine y = Check.inState(UNSOLD);
        y.again(0, 1000);
        Check.same(name + " after again", call.answer(y, 0), due[OPEN]);
    }

    private static void buyerOfLots() {
        Check.sentence("Promise 17: Returns the buyer; NONE if it is OPEN or UNSOLD; IndexOutOfBoundsException if there"
                + " is no such lot");
        needsALot("buyerOf", (x, lot) -> x.buyerOf(lot));
        answersByState("buyerOf", (x, lot) -> x.buyerOf(lot), NONE, NONE, 0, 0, 0);
        DroitLine x = Check.open(50, NO_ARTIST);
        x.bid(0, 9, 50);
        Check.same("buyerOf with a bid", x.buyerOf(0), NONE);
        x.hammer(0);
        Check.same("buyerOf lot 0 of buyer 9", x.buyerOf(0), 9);
    }

    private static void priceOfLots() {
        Check.sentence("Promise 18: Returns the price; NONE if it is OPEN or UNSOLD; IndexOutOfBoundsException if there"
                + " is no such lot");
        needsALot("price", (x, lot) -> x.price(lot));
        answersByState("price", (x, lot) -> x.price(lot), NONE, NONE, 1000, 1000, 1000);
        DroitLine x = Check.open(0, NO_ARTIST);
        x.bid(0, 9, 1);
        Check.same("price with a bid", x.price(0), NONE);
        x.hammer(0);
        Check.same("price of 0", x.price(0), 0);
    }

    private static void bidsOfLots() {
        Check.sentence("Promise 19: Returns how many, those with which it was sold or unsold included;"
                + " IndexOutOfBoundsException if there is no such lot");
        needsALot("bids", (x, lot) -> x.bids(lot));
        answersByState("bids", (x, lot) -> x.bids(lot), 0, 1, 1, 1, 1);
        DroitLine x = Check.open(TOP, NO_ARTIST);
        for (int buyer = 0; buyer < 10; buyer++) {
            x.bid(0, buyer, 1);
            Check.same("bids, OPEN", x.bids(0), buyer + 1);
        }
        x.hammer(0);
        Check.same("ten bids, UNSOLD", x.bids(0), 10);
        x.again(0, 0);
        Check.same("none again", x.bids(0), 0);
        for (int buyer = 0; buyer < 10; buyer++) {
            x.bid(0, buyer, 1);
        }
        x.hammer(0);
        Check.same("ten bids, SOLD", x.bids(0), 10);
        x.pay(0);
        Check.same("ten bids, PAID", x.bids(0), 10);
        x.settle(0);
        Check.same("ten bids, SETTLED", x.bids(0), 10);
    }

    private static void feePrice() {
        Check.sentence("Promise 20: price: 0 to 1000000; IllegalArgumentException if price is out of its range");
        DroitLine x = new DroitLine();
        for (int price : new int[] {LEAST_INT, -1, TOP + 1, GREATEST_INT}) {
            Check.fails("price " + price, Check.ARGUMENT, () -> x.fee(price));
        }
        Check.same("the least", x.fee(0), 0);
        Check.same("the greatest", x.fee(TOP), 124500);
        Check.same("no called amount", x.fee(41), 10);
    }

    private static void shareOfLots() {
        Check.sentence("Promise 21: Returns the share; 0 if it is OPEN or UNSOLD; IndexOutOfBoundsException if there is"
                + " no such lot");
        needsALot("share", (x, lot) -> x.share(lot));
        answersByState("share", (x, lot) -> x.share(lot), 0, 0, 40, 40, 40);
        DroitLine x = Check.open(1000, LIVES);
        x.bid(0, 0, TOP);
        Check.same("share with a bid", x.share(0), 0);
    }

    private static void interestOfLots() {
        Check.sentence("Promise 22: Returns the interest; 0 without an advance; IndexOutOfBoundsException if there is no"
                + " such lot");
        needsALot("interest", (x, lot) -> x.interest(lot));
        for (int state = OPEN; state <= SETTLED; state++) {
            DroitLine x = Check.inState(state);
            x.days(200);
            x.rate(100);
            Check.same("without an advance in state " + state, x.interest(0), 0);
        }
    }

    private static void interestUpToSettling() {
        Check.sentence("Promise 22: the interest of the advance of a lot, up to today, or up to the day on which it was"
                + " settled, as it was then");
        DroitLine x = Check.open(1000, NO_ARTIST);
        x.advance(0, 500);
        x.days(200);
        Check.same("OPEN", x.interest(0), 20);
        x.hammer(0);
        x.days(200);
        Check.same("UNSOLD", x.interest(0), 40);
        x.again(0, 1000);
        x.bid(0, 0, 1000);
        x.hammer(0);
        x.days(200);
        Check.same("SOLD", x.interest(0), 60);
        x.defaults(0);
        Check.same("after a default", x.interest(0), 60);
        x.bid(0, 0, 1000);
        x.hammer(0);
        x.pay(0);
        x.days(200);
        Check.same("PAID", x.interest(0), 80);
        x.rate(50);
        Check.same("PAID, by another rate", x.interest(0), 200);
        Check.same("settle", x.settle(0), 1000 - 100 - 500 - 200);
        Check.same("SETTLED", x.interest(0), 200);
        x.rate(0);
        x.days(200);
        Check.same("SETTLED, by another rate, later", x.interest(0), 200);
    }

    private static void owesBuyer() {
        Check.sentence("Promise 23: IndexOutOfBoundsException if there is no such buyer; 0 to 9");
        DroitLine x = new DroitLine();
        for (int buyer : new int[] {LEAST_INT, -1, 10, GREATEST_INT}) {
            Check.fails("buyer " + buyer, Check.INDEX, () -> x.owes(buyer));
        }
        for (int buyer = 0; buyer < 10; buyer++) {
            Check.same("nothing at first, buyer " + buyer, x.owes(buyer), 0);
            for (int other = 0; other < 10; other++) {
                Check.same("owed by " + other, withDebtOf(buyer).owes(other), other == buyer ? 600 : 0);
            }
        }
    }

    private static void moneyOfAnEmptyHouse() {
        Check.sentence("Promises 24 to 28: of a house without lots");
        DroitLine x = new DroitLine();
        Check.same("in", x.in(), 0);
        Check.same("out", x.out(), 0);
        Check.same("kept", x.kept(), 0);
        Check.same("held", x.held(), 0);
        Check.same("heldByLots", x.heldByLots(), 0);
    }

    private static void heldByLotsOfEachState() {
        Check.sentence("Promise 28: of PAID ones the price, less the advances of all lots that are not SETTLED");
        DroitLine x = new DroitLine();
        for (int lot = 0; lot < 30; lot++) {
            x.lot(lot % 6, 1000, LIVES);
        }
        for (int lot = 0; lot < 30; lot++) {
            x.advance(lot, 500);
            Check.same("OPEN with advances up to lot " + lot, x.heldByLots(), -500 * (lot + 1));
        }
        x.hammer(0);
        Check.same("with one UNSOLD", x.heldByLots(), -15000);
        for (int lot : new int[] {1, 29}) {
            x.bid(lot, 0, 1000);
            x.hammer(lot);
            Check.same("with lot SOLD", x.heldByLots(), lot == 1 ? -15000 : -14500);
            x.pay(lot);
            Check.same("with lot PAID", x.heldByLots(), lot == 1 ? -14000 : -13500);
            x.settle(lot);
            Check.same("with lot SETTLED", x.heldByLots(), lot == 1 ? -14500 : -14000);
            Check.same("held", x.held(), x.heldByLots());
        }
    }
}
