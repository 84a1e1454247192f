/** Each sentence ahead of the promises that names a boundary case, at that boundary. */
public final class TermsEdgesTest {
    private static final int OPEN = DroitLine.OPEN;
    private static final int UNSOLD = DroitLine.UNSOLD;
    private static final int SOLD = DroitLine.SOLD;
    private static final int NONE = DroitLine.NONE;
    private static final int NO_ARTIST = DroitLine.NO_ARTIST;
    private static final int LIVES = DroitLine.LIVES;
    private static final int TOP = 1000000;

    private TermsEdgesTest() {
    }

    public static void main(String[] args) {
        anObjectBearsItsCalls();
        daysAreCountedFromZero();
        divisionsAreRoundedDown();
        sellersAndBuyers();
        commissionOfASeller();
        stepsOfEveryAmount();
        nextCallBehindACalledAmount();
        thirtyLotsFromZero();
        lotIsOpenAtFirst();
        oneBidByEachBuyer();
        laterBidKeepsItsPlace();
        bidIsTakenAsItsCall();
        noBidOfTheReserve();
        soldToTheHighest();
        ofSeveralAlikeTheFirst();
        priceBetweenReserveAndBid();
        priceWithoutOtherBids();
        priceWithoutReserve();
        unsoldLotOpensAgain();
        feeBands();
        shareIsNothing();
        shareByYears();
        shareBandsAndTop();
        yearOfASale();
        buyerPaysPriceAndFee();
        defaultOpensTheLot();
        gapByTheNewPrice();
        gapWaitsForThePayment();
        gapIsGoneThen();
        laterDefaultLeavesTheGap();
        gapsAreOfTheirOwnLots();
        oneAdvanceForALotNotPaid();
        advanceUpToHalfOfTheReserve();
        interestOfDaysAndRate();
        settlingAboutNothing();
        artistGetsTheShare();
        moneyIn();
        moneyOut();
        moneyKept();
        moneyHeld();
        Check.end("TermsEdgesTest");
    }

    private static void anObjectBearsItsCalls() {
        Check.sentence("An object is used for at most 512 calls after it has been made");
        DroitLine x = new DroitLine();
        for (int lot = 0; lot < 30; lot++) {
            x.lot(lot % 6, 1000, LIVES);
            for (int buyer = 0; buyer < 10; buyer++) {
                x.bid(lot, buyer, 1000 + 100 * buyer);
            }
            x.advance(lot, 500);
        }
        x.days(200);
        for (int lot = 0; lot < 30; lot++) {
            Check.same("price of lot " + lot, x.hammer(lot), 1900);
            Check.same("pay for lot " + lot, x.pay(lot), 2375);
            Check.same("settling of lot " + lot, x.settle(lot), 1900 - 190 - 76 - 500 - 20);
            Check.same("state of lot " + lot, x.state(lot), DroitLine.SETTLED);
            Check.same("interest of lot " + lot, x.interest(lot), 20);
        }
        Check.same("the 512th call, kept", x.kept(), 30 * (475 + 190 + 20));
    }

    private static void daysAreCountedFromZero() {
        Check.sentence("Days are counted from 0; the day is 0 at first");
        Check.same("a day after the first", new DroitLine().days(1), 1);
        Check.same("200 days after the first", new DroitLine().days(200), 200);
    }

    private static void divisionsAreRoundedDown() {
        Check.sentence("all divisions are rounded down");
        DroitLine x = new DroitLine();
        Check.same("1.98 steps", x.callOf(99), 50);
        Check.same("a fee of 0.75", x.fee(3), 0);
        Check.same("a fee of 2500.8", x.fee(10004), 2500);
        DroitLine y = Check.paid(950, NO_ARTIST);
        y.commission(0, 49);
        Check.same("a commission of 465.5", y.settle(0), 950 - 465);
        DroitLine z = Check.open(10000, NO_ARTIST);
        z.advance(0, 4999);
        z.days(1);
        Check.same("an interest of 0.9998", z.interest(0), 0);
    }

    private static void sellersAndBuyers() {
        Check.sentence("There are the sellers 0 to 5 and the buyers 0 to 9");
        DroitLine x = new DroitLine();
        Check.same("lot of seller 0", x.lot(0, 0, NO_ARTIST), 0);
        Check.same("lot of seller 5", x.lot(5, 0, NO_ARTIST), 1);
        Check.same("commission of seller 0", x.commission(0, 1), 10);
        Check.same("commission of seller 5", x.commission(5, 1), 10);
        Check.same("bid of buyer 0", x.bid(0, 0, 100), 100);
        Check.same("bid of buyer 9", x.bid(0, 9, 100), 100);
        Check.same("owed by buyer 0", x.owes(0), 0);
        Check.same("owed by buyer 9", x.owes(9), 0);
        Check.fails("nothing to pay for buyer 0", Check.STATE, () -> x.payGaps(0));
        Check.fails("nothing to pay for buyer 9", Check.STATE, () -> x.payGaps(9));
        for (int seller : new int[] {-1, 6, Integer.MIN_VALUE, Integer.MAX_VALUE}) {
            Check.fails("lot of seller " + seller, Check.INDEX, () -> x.lot(seller, 0, NO_ARTIST));
            Check.fails("commission of seller " + seller, Check.INDEX, () -> x.commission(seller, 1));
        }
        for (int buyer : new int[] {-1, 10, Integer.MIN_VALUE, Integer.MAX_VALUE}) {
            Check.fails("bid of buyer " + buyer, Check.INDEX, () -> x.bid(0, buyer, 100));
            Check.fails("payment of buyer " + buyer, Check.INDEX, () -> x.payGaps(buyer));
            Check.fails("owed by buyer " + buyer, Check.INDEX, () -> x.owes(buyer));
        }
    }

    private static int settledWithCommission(int hundredths) {
        DroitLine x = Check.paid(1000, NO_ARTIST);
        x.commission(0, hundredths);
        return x.settle(0);
    }

    private static void commissionOfASeller() {
        Check.sentence("A seller has a commission, 0 to 50 hundredths, 10 at first");
        DroitLine x = new DroitLine();
        for (int seller = 0; seller < 6; seller++) {
            int number = seller;
            Check.same("first of seller " + seller, x.commission(seller, 50), 10);
            Check.same("50 of seller " + seller, x.commission(seller, 0), 50);
            Check.same("0 of seller " + seller, x.commission(seller, 10), 0);
            Check.fails("51 of seller " + seller, Check.ARGUMENT, () -> x.commission(number, 51));
            Check.fails("-1 of seller " + seller, Check.ARGUMENT, () -> x.commission(number, -1));
        }
        Check.same("settling at first", Check.paid(1000, NO_ARTIST).settle(0), 900);
        Check.same("settling at 0", settledWithCommission(0), 1000);
        Check.same("settling at 1", settledWithCommission(1), 990);
        Check.same("settling at 50", settledWithCommission(50), 500);
    }

    /** The step as the document tells it. */
    private static int step(int amount) {
        return amount < 1000 ? 50 : amount < 5000 ? 100 : amount < 20000 ? 500 : 1000;
    }

    private static void stepsOfEveryAmount() {
        Check.sentence("The step of an amount is 50 below 1000, 100 from 1000 on below 5000, 500 from 5000 on below"
                + " 20000, and 1000 from 20000 on. An amount is called if it is divisible by its step. The call of"
                + " an amount is the greatest called amount that is not above it");
        int called = 0;
        DroitLine x = new DroitLine();
        for (int amount = 0; amount <= TOP; amount++) {
            if (amount % step(amount) == 0) {
                called = amount;
            }
            if (amount % 512 == 0) {
                x = new DroitLine();
            }
            Check.same("call of " + amount, x.callOf(amount), called);
        }
    }

    private static int priceOf(int reserve, int... amounts) {
        DroitLine x = Check.open(reserve, NO_ARTIST);
        for (int buyer = 0; buyer < amounts.length; buyer++) {
            x.bid(0, buyer, amounts[buyer]);
        }
        return x.hammer(0);
    }

    private static void nextCallBehindACalledAmount() {
        Check.sentence("The next call behind a called amount is that and its step");
        int[] called = {0, 50, 950, 1000, 4900, 5000, 19500, 20000, 998000, 999000};
        int[] next = {50, 100, 1000, 1100, 5000, 5500, 20000, 21000, 999000, TOP};
        for (int i = 0; i < called.length; i++) {
            Check.same("behind " + called[i], priceOf(0, Math.max(1, called[i]), TOP), next[i]);
        }
    }

    private static void thirtyLotsFromZero() {
        Check.sentence("At most 30, numbered from 0");
        DroitLine x = new DroitLine();
        Check.fails("lot 0 of none", Check.INDEX, () -> x.state(0));
        for (int lot = 0; lot < 30; lot++) {
            int number = lot;
            Check.same("number of lots before lot " + lot, x.lots(), lot);
            Check.fails("lot " + lot + " before it is taken", Check.INDEX, () -> x.state(number));
            Check.same("number of lot " + lot, x.lot(0, 50 * lot, NO_ARTIST), lot);
        }
        Check.fails("a lot more", Check.STATE, () -> x.lot(0, 0, NO_ARTIST));
        Check.same("number of lots", x.lots(), 30);
        Check.same("half of the last lot's reserve, the call of 1450", x.advance(29, 1), 700);
        Check.fails("lot 30", Check.INDEX, () -> x.state(30));
    }

    private static void lotIsOpenAtFirst() {
        Check.sentence("It is OPEN at first");
        DroitLine x = Check.open(0, LIVES);
        Check.same("state", x.state(0), OPEN);
        Check.same("bids", x.bids(0), 0);
        Check.same("a bid", x.bid(0, 0, 100), 100);
    }

    private static void oneBidByEachBuyer() {
        Check.sentence("Bids are left for an OPEN lot, by each buyer one at most, a later one comes in place of the"
                + " earlier one");
        DroitLine x = Check.open(50, NO_ARTIST);
        for (int buyer = 9; buyer >= 0; buyer--) {
            x.bid(0, buyer, 5000);
            Check.same("bids with buyer " + buyer, x.bids(0), 10 - buyer);
        }
        for (int buyer = 0; buyer < 10; buyer++) {
            x.bid(0, buyer, 100 + 50 * buyer);
            Check.same("bids with a later one of buyer " + buyer, x.bids(0), 10);
        }
        Check.same("price by the later ones", x.hammer(0), 550);
        Check.same("buyer by the later ones", x.buyerOf(0), 9);
        DroitLine y = Check.open(50, NO_ARTIST);
        y.bid(0, 4, 700);
        y.bid(0, 4, 900);
        Check.same("one's own earlier bid is no other bid", y.hammer(0), 50);
        DroitLine z = Check.open(500, NO_ARTIST);
        z.bid(0, 4, 900);
        z.bid(0, 4, 450);
        Check.same("a later one below the reserve", z.hammer(0), NONE);
    }

    private static void laterBidKeepsItsPlace() {
        Check.sentence("and keeps its place in time: it counts as left when the earlier one was");
        DroitLine x = Check.open(50, NO_ARTIST);
        x.bid(0, 3, 100);
        x.bid(0, 1, 500);
        x.bid(0, 2, 500);
        x.bid(0, 1, 200);
        x.bid(0, 1, 500);
        x.bid(0, 3, 500);
        x.hammer(0);
        Check.same("the first of three", x.buyerOf(0), 3);
        DroitLine y = Check.open(50, NO_ARTIST);
        y.bid(0, 3, 500);
        y.bid(0, 1, 500);
        y.bid(0, 3, 500);
        y.hammer(0);
        Check.same("the same amount once more", y.buyerOf(0), 3);
        DroitLine z = Check.open(50, NO_ARTIST);
        z.bid(0, 3, 500);
        z.bid(0, 1, 500);
        z.bid(0, 3, 100);
        z.bid(0, 3, 500);
        z.hammer(0);
        Check.same("a lower one in between", z.buyerOf(0), 3);
    }

    private static void bidIsTakenAsItsCall() {
        Check.sentence("a bid is taken as the call of the amount that is left");
        DroitLine x = Check.open(1000, NO_ARTIST);
        Check.same("1", x.bid(0, 0, 1), 0);
        Check.same("49", x.bid(0, 0, 49), 0);
        Check.same("50", x.bid(0, 0, 50), 50);
        Check.same("999", x.bid(0, 0, 999), 950);
        Check.same("a bid of 999 is below 1000", x.hammer(0), NONE);
        DroitLine y = Check.open(50, NO_ARTIST);
        y.bid(0, 8, 850);
        y.bid(0, 5, 899);
        y.hammer(0);
        Check.same("850 and 899 are alike", y.buyerOf(0), 8);
        Check.same("price of 850 and 899", y.price(0), 850);
        Check.same("900 behind 899", priceOf(50, 2000, 899), 900);
    }

    private static void noBidOfTheReserve() {
        Check.sentence("if no bid is at least the reserve, it is UNSOLD");
        Check.same("no bid, reserve 50", priceOf(50), NONE);
        Check.same("no bid, reserve 0", priceOf(0), NONE);
        Check.same("bid a step below", priceOf(1000, 950), NONE);
        Check.same("bid of the reserve", priceOf(1000, 1000), 1000);
        Check.same("several below", priceOf(1000, 950, 900, 950), NONE);
        Check.same("one of several at it", priceOf(1000, 950, 1000, 950), 1000);
        Check.same("bid a step below the top", priceOf(TOP, 999999), NONE);
        Check.same("bid of the top", priceOf(TOP, TOP), TOP);
        DroitLine x = Check.open(50, NO_ARTIST);
        x.bid(0, 0, 49);
        x.hammer(0);
        Check.same("state of a bid of 0", x.state(0), UNSOLD);
    }

    private static void soldToTheHighest() {
        Check.sentence("Otherwise it is SOLD to the highest bid");
        for (int winner = 0; winner < 10; winner++) {
            DroitLine x = Check.open(50, NO_ARTIST);
            for (int buyer = 0; buyer < 10; buyer++) {
                x.bid(0, buyer, buyer == winner ? 600 : 550 - 50 * buyer);
            }
            Check.same("price", x.hammer(0), winner == 0 ? 550 : 600);
            Check.same("state", x.state(0), SOLD);
            Check.same("buyer", x.buyerOf(0), winner);
        }
    }

    private static void ofSeveralAlikeTheFirst() {
        Check.sentence("of several alike to the one that was left first");
        for (int first = 0; first < 10; first++) {
            DroitLine x = Check.open(50, NO_ARTIST);
            for (int place = 0; place < 10; place++) {
                x.bid(0, (first + place) % 10, 600);
            }
            Check.same("price of ten alike", x.hammer(0), 600);
            Check.same("the first of ten alike", x.buyerOf(0), first);
        }
        DroitLine y = Check.open(50, NO_ARTIST);
        y.bid(0, 0, 550);
        y.bid(0, 9, 600);
        y.bid(0, 1, 600);
        y.hammer(0);
        Check.same("the first of the highest", y.buyerOf(0), 9);
    }

    private static void priceBetweenReserveAndBid() {
        Check.sentence("Its price is the next call behind the highest one of the other bids, but at least the"
                + " reserve, and at most the bid of the buyer");
        Check.same("the next call is a step below the reserve", priceOf(700, 900, 600), 700);
        Check.same("the next call is the reserve", priceOf(700, 900, 650), 700);
        Check.same("the next call is a step above the reserve", priceOf(700, 900, 700), 750);
        Check.same("the next call is a step below the bid", priceOf(100, 900, 800), 850);
        Check.same("the next call is the bid", priceOf(100, 900, 850), 900);
        Check.same("the next call is above the bid", priceOf(100, 900, 900), 900);
        Check.same("the bid is the reserve", priceOf(900, 900, 850), 900);
        Check.same("two bids of the reserve", priceOf(900, 900, 900), 900);
        Check.same("another bid of 0", priceOf(0, 900, 1), 50);
        Check.same("two bids of 0", priceOf(0, 1, 49), 0);
        Check.same("two of the top", priceOf(0, TOP, TOP), TOP);
        Check.same("the highest of the others comes first", priceOf(100, 600, 900, 300), 650);
        Check.same("the highest of the others comes last", priceOf(100, 300, 900, 600), 650);
    }

    private static void priceWithoutOtherBids() {
        Check.sentence("without other bids it is the reserve");
        Check.same("a bid of the least reserve", priceOf(50, 50), 50);
        Check.same("a bid above the least reserve", priceOf(50, TOP), 50);
        Check.same("a bid above a reserve of 100", priceOf(100, TOP), 100);
        Check.same("a bid of the greatest reserve", priceOf(TOP, TOP), TOP);
    }

    private static void priceWithoutReserve() {
        Check.sentence("A lot whose reserve is 0 with a single bid is sold for 50, or for that bid, if it is less");
        Check.same("a bid of 0", priceOf(0, 1), 0);
        Check.same("a bid of 50", priceOf(0, 50), 50);
        Check.same("a bid of 100", priceOf(0, 100), 50);
        Check.same("a bid of the top", priceOf(0, TOP), 50);
        Check.same("a reserve of 49 is one of 0", priceOf(49, 49), 0);
        DroitLine x = Check.open(0, NO_ARTIST);
        x.bid(0, 7, 1);
        x.hammer(0);
        Check.same("sold for 0 is SOLD", x.state(0), SOLD);
        Check.same("sold for 0, to", x.buyerOf(0), 7);
        Check.same("sold for 0, for", x.price(0), 0);
        Check.same("pay for 0", x.pay(0), 0);
        Check.same("settle for 0", x.settle(0), 0);
    }

    private static void unsoldLotOpensAgain() {
        Check.sentence("An UNSOLD lot can be opened again. Its bids are gone then, and it has the reserve that is"
                + " told");
        DroitLine x = Check.inState(UNSOLD);
        Check.same("bids gone", x.again(0, 0), 1);
        Check.same("state", x.state(0), OPEN);
        Check.same("bids", x.bids(0), 0);
        Check.same("nothing of the bids", x.hammer(0), NONE);
        x.again(0, TOP);
        x.bid(0, 1, 999999);
        Check.same("below the reserve told", x.hammer(0), NONE);
        Check.same("greatest advance by the reserve told", x.advance(0, 1), 500000);
        x.again(0, 149);
        x.bid(0, 1, 100);
        x.bid(0, 0, 100);
        Check.same("at the call of the reserve told", x.hammer(0), 100);
        Check.same("places in time are new", x.buyerOf(0), 1);
    }

    private static void feeBands() {
        Check.sentence("The fee for a price is 25 hundredths of what of it is up to 10000, 20 hundredths of what is"
                + " above that up to 50000, and 12 hundredths of what is above that, each rounded down");
        int[] prices = {0, 1, 3, 4, 7, 8, 9999, 10000, 10001, 10004, 10005, 10009, 10010, 49999, 50000, 50001,
            50008, 50009, 50016, 50017, 999999, TOP};
        int[] fees = {0, 0, 0, 1, 1, 2, 2499, 2500, 2500, 2500, 2501, 2501, 2502, 10499, 10500, 10500,
            10500, 10501, 10501, 10502, 124499, 124500};
        DroitLine x = new DroitLine();
        for (int i = 0; i < prices.length; i++) {
            Check.same("fee for " + prices[i], x.fee(prices[i]), fees[i]);
        }
    }

    private static int shareOf(int price, int artist) {
        return Check.sold(price, artist).share(0);
    }

    private static void shareIsNothing() {
        Check.sentence("The share of the artist is 0 without an artist, if the price is below 1000");
        Check.same("without an artist", shareOf(TOP, NO_ARTIST), 0);
        Check.same("without an artist, at 1000", shareOf(1000, NO_ARTIST), 0);
        Check.same("at 950", shareOf(950, LIVES), 0);
        Check.same("at 1000", shareOf(1000, LIVES), 40);
        Check.same("of one who died, at 950", shareOf(950, 2000), 0);
        Check.same("of one who died, at 1000", shareOf(1000, 2000), 40);
    }

    private static void shareByYears() {
        Check.sentence("or if more than 70 years lie between the year of death and the year of the sale");
        Check.same("200 years", shareOf(1000, 1800), 0);
        Check.same("71 years", shareOf(1000, 1929), 0);
        Check.same("70 years", shareOf(1000, 1930), 40);
        Check.same("69 years", shareOf(1000, 1931), 40);
        Check.same("no years", shareOf(1000, 2000), 40);
        Check.same("one who lives", shareOf(1000, LIVES), 40);
    }

    private static void shareBandsAndTop() {
        Check.sentence("otherwise 4 hundredths of what is up to 50000, 3 hundredths of what is above that up to"
                + " 200000, and 1 hundredth of what is above that, each rounded down, together at most 12500");
        Check.same("at 1100", shareOf(1100, LIVES), 44);
        Check.same("at 49000", shareOf(49000, LIVES), 1960);
        Check.same("at 50000", shareOf(50000, LIVES), 2000);
        Check.same("at 51000", shareOf(51000, LIVES), 2030);
        Check.same("at 199000", shareOf(199000, LIVES), 6470);
        Check.same("at 200000", shareOf(200000, LIVES), 6500);
        Check.same("at 201000", shareOf(201000, LIVES), 6510);
        Check.same("just below the top", shareOf(799000, LIVES), 12490);
        Check.same("just the top", shareOf(800000, LIVES), 12500);
        Check.same("just above the top", shareOf(801000, LIVES), 12500);
        Check.same("far above the top", shareOf(TOP, LIVES), 12500);
    }

    /** Whether an artist who died that year has a share if the hammer falls on the day. */
    private static boolean hasShare(int day, int died) {
        DroitLine x = Check.open(1000, died);
        x.bid(0, 0, 1000);
        Check.passDays(x, day);
        x.hammer(0);
        return x.share(0) == 40;
    }

    private static void lastYearWithoutShare(int day, int died) {
        Check.same("day " + day + ", died in " + died, hasShare(day, died) ? 1 : 0, 0);
        Check.same("day " + day + ", died in " + (died + 1), hasShare(day, died + 1) ? 1 : 0, 1);
    }

    private static void yearOfASale() {
        Check.sentence("The year of a sale is 2000, and the day on which the hammer fell divided by 365");
        lastYearWithoutShare(0, 1929);
        lastYearWithoutShare(364, 1929);
        lastYearWithoutShare(365, 1930);
        lastYearWithoutShare(729, 1930);
        lastYearWithoutShare(730, 1931);
        lastYearWithoutShare(7299, 1948);
        lastYearWithoutShare(7300, 1949);
        DroitLine x = Check.open(1000, 1930);
        Check.passDays(x, 364);
        x.bid(0, 0, 1000);
        x.hammer(0);
        x.days(1);
        Check.same("later days do not count", x.share(0), 40);
        x.pay(0);
        Check.same("nor at the payment", x.share(0), 40);
        Check.same("nor at settling", x.settle(0), 1000 - 100 - 40);
        DroitLine y = Check.open(1000, 1930);
        Check.passDays(y, 364);
        Check.sellAndDefault(y, 0);
        y.days(1);
        y.bid(0, 1, 1000);
        y.hammer(0);
        Check.same("the last hammer counts", y.share(0), 0);
    }

    private static void buyerPaysPriceAndFee() {
        Check.sentence("The buyer of a SOLD lot pays price and fee; it is PAID then");
        Check.same("of 50", Check.sold(50, NO_ARTIST).pay(0), 62);
        Check.same("of 10000", Check.sold(10000, NO_ARTIST).pay(0), 12500);
        Check.same("of 10500", Check.sold(10500, NO_ARTIST).pay(0), 13100);
        Check.same("of 50000", Check.sold(50000, NO_ARTIST).pay(0), 60500);
        Check.same("of 51000", Check.sold(51000, NO_ARTIST).pay(0), 61620);
        Check.same("of the top", Check.sold(TOP, NO_ARTIST).pay(0), 1124500);
        Check.same("state", Check.paid(50, NO_ARTIST).state(0), DroitLine.PAID);
    }

    private static void defaultOpensTheLot() {
        Check.sentence("Or the buyer defaults: the lot is OPEN again, without bids, with the same reserve");
        DroitLine x = Check.open(1000, NO_ARTIST);
        x.bid(0, 9, 3000);
        x.bid(0, 8, 2000);
        Check.same("price", x.hammer(0), 2100);
        x.defaults(0);
        Check.same("state", x.state(0), OPEN);
        Check.same("bids", x.bids(0), 0);
        Check.same("greatest advance by the same reserve", x.advance(0, 1), 500);
        x.bid(0, 8, 950);
        Check.same("below the same reserve", x.hammer(0), NONE);
        DroitLine y = Check.open(1000, NO_ARTIST);
        Check.sellAndDefault(y, 9);
        y.bid(0, 8, 1000);
        y.bid(0, 9, 1000);
        Check.same("of the same reserve", y.hammer(0), 1000);
        Check.same("places in time are new", y.buyerOf(0), 8);
    }

    /** Lot 0 is sold to buyer 9 for the first price, defaults, and is paid by buyer 0 for the second. */
    private static DroitLine resold(int first, int second) {
        DroitLine x = Check.open(first, NO_ARTIST);
        Check.sellAndDefault(x, 9);
        Check.reopen(x, second);
        x.bid(0, 0, TOP);
        x.hammer(0);
        x.pay(0);
        return x;
    }

    private static void gapByTheNewPrice() {
        Check.sentence("a gap is open: if the lot is SOLD again and PAID for a lower price, the buyer who defaulted"
                + " first owes the difference of the price then and the new one; if the price is not lower, nothing"
                + " is owed");
        Check.same("a step lower", resold(1000, 950).owes(9), 50);
        Check.same("the same price", resold(1000, 1000).owes(9), 0);
        Check.same("a step higher", resold(1000, 1100).owes(9), 0);
        Check.same("from the top to the least", resold(TOP, 50).owes(9), TOP - 50);
        Check.same("from the least to the top", resold(50, TOP).owes(9), 0);
        Check.same("the new buyer owes nothing", resold(1000, 950).owes(0), 0);
        DroitLine x = Check.open(0, NO_ARTIST);
        Check.sellAndDefault(x, 9);
        x.bid(0, 0, 1);
        x.hammer(0);
        x.pay(0);
        Check.same("from 50 to 0", x.owes(9), 50);
        DroitLine y = Check.open(0, NO_ARTIST);
        y.bid(0, 9, 1);
        y.hammer(0);
        y.defaults(0);
        y.bid(0, 0, 50);
        y.hammer(0);
        y.pay(0);
        Check.same("from 0 to 50", y.owes(9), 0);
        Check.fails("nothing to pay from 0 to 50", Check.STATE, () -> y.payGaps(9));
        DroitLine z = Check.open(1000, NO_ARTIST);
        int[] others = {2000, 1900, 1500};
        for (int sale = 0; sale < 3; sale++) {
            z.bid(0, 9 - sale, 3000);
            z.bid(0, 0, others[sale]);
            z.hammer(0);
            if (sale < 2) {
                z.defaults(0);
            }
        }
        z.pay(0);
        Check.same("from 2100 by 2000 to 1600, not to the reserve", z.owes(9), 500);
    }

    private static void gapWaitsForThePayment() {
        Check.sentence("if the lot is SOLD again and PAID for a lower price");
        DroitLine x = Check.open(1000, NO_ARTIST);
        Check.sellAndDefault(x, 9);
        Check.same("after the default", x.owes(9), 0);
        x.hammer(0);
        Check.same("while it is UNSOLD", x.owes(9), 0);
        x.again(0, 400);
        Check.same("while it is OPEN again", x.owes(9), 0);
        x.bid(0, 0, 400);
        x.hammer(0);
        Check.same("while it is SOLD again", x.owes(9), 0);
        x.pay(0);
        Check.same("when it is PAID", x.owes(9), 600);
        x.settle(0);
        Check.same("when it is SETTLED", x.owes(9), 600);
    }

    private static void gapIsGoneThen() {
        Check.sentence("The gap is gone then. What is owed for gaps can be paid");
        DroitLine x = resold(1000, 400);
        Check.same("the difference", x.payGaps(9), 600);
        Check.same("owed after it is paid", x.owes(9), 0);
        Check.fails("paid twice", Check.STATE, () -> x.payGaps(9));
        x.settle(0);
        Check.same("owed after settling", x.owes(9), 0);
        DroitLine y = resold(1000, 1000);
        y.settle(0);
        Check.fails("nothing to pay", Check.STATE, () -> y.payGaps(9));
    }

    /** Buyer 9 defaults at 1000, buyer 8 at the second price, and buyer 0 pays the third. */
    private static DroitLine twiceDefaulted(int second, int third) {
        DroitLine x = Check.open(1000, NO_ARTIST);
        Check.sellAndDefault(x, 9);
        Check.reopen(x, second);
        Check.sellAndDefault(x, 8);
        Check.reopen(x, third);
        x.bid(0, 0, TOP);
        x.hammer(0);
        x.pay(0);
        return x;
    }

    private static void laterDefaultLeavesTheGap() {
        Check.sentence("A later default of the same lot leaves the open gap as it is");
        Check.same("a later one at a lower price", twiceDefaulted(700, 400).owes(9), 600);
        Check.same("a later one at a higher price", twiceDefaulted(3000, 400).owes(9), 600);
        Check.same("a later one at the same price", twiceDefaulted(1000, 400).owes(9), 600);
        Check.same("lower than the later one alone", twiceDefaulted(3000, 2000).owes(9), 0);
        Check.same("the later one owes nothing", twiceDefaulted(3000, 400).owes(8), 0);
        DroitLine x = Check.open(1000, NO_ARTIST);
        Check.sellAndDefault(x, 9);
        Check.reopen(x, 3000);
        Check.sellAndDefault(x, 9);
        Check.reopen(x, 400);
        x.bid(0, 9, 400);
        x.hammer(0);
        x.pay(0);
        Check.same("of the same buyer", x.owes(9), 600);
        DroitLine y = Check.open(0, NO_ARTIST);
        y.bid(0, 0, 1);
        y.hammer(0);
        y.defaults(0);
        Check.reopen(y, 1000);
        Check.sellAndDefault(y, 8);
        Check.reopen(y, 400);
        y.bid(0, 1, 400);
        y.hammer(0);
        y.pay(0);
        Check.same("a first one of buyer 0 at the price 0", y.owes(8), 0);
        Check.same("nothing below the price 0", y.owes(0), 0);
    }

    private static void gapsAreOfTheirOwnLots() {
        Check.sentence("A later default of the same lot leaves the open gap as it is; so one of another lot opens one");
        DroitLine x = new DroitLine();
        for (int lot = 0; lot < 30; lot++) {
            x.lot(0, 1000, NO_ARTIST);
            x.bid(lot, 9, 1000);
            x.hammer(lot);
            x.defaults(lot);
        }
        for (int lot = 0; lot < 30; lot++) {
            x.hammer(lot);
            x.again(lot, 50);
            x.bid(lot, 9, 50);
            x.hammer(lot);
            x.pay(lot);
        }
        Check.same("owed for the gaps of 30 lots", x.owes(9), 30 * 950);
        Check.same("paid for the gaps of 30 lots", x.payGaps(9), 30 * 950);
    }

    private static void oneAdvanceForALotNotPaid() {
        Check.sentence("For a lot that is not PAID the seller can have one advance");
        Check.same("OPEN", Check.inState(OPEN).advance(0, 1), 500);
        Check.same("UNSOLD", Check.inState(UNSOLD).advance(0, 1), 500);
        Check.same("SOLD", Check.inState(SOLD).advance(0, 1), 500);
        DroitLine x = Check.inState(DroitLine.PAID);
        Check.fails("PAID", Check.STATE, () -> x.advance(0, 1));
        x.settle(0);
        Check.fails("SETTLED", Check.STATE, () -> x.advance(0, 1));
        DroitLine y = Check.inState(OPEN);
        y.advance(0, 1);
        Check.fails("a second one, OPEN", Check.STATE, () -> y.advance(0, 1));
        y.hammer(0);
        Check.fails("a second one, UNSOLD", Check.STATE, () -> y.advance(0, 1));
        y.again(0, 2000);
        Check.fails("a second one, OPEN again", Check.STATE, () -> y.advance(0, 1));
        y.bid(0, 0, TOP);
        y.hammer(0);
        Check.fails("a second one, SOLD", Check.STATE, () -> y.advance(0, 1));
        y.defaults(0);
        Check.fails("a second one, defaulted", Check.STATE, () -> y.advance(0, 1));
        y.lot(0, 1000, NO_ARTIST);
        Check.same("the same seller's other lot", y.advance(1, 500), 500);
        Check.same("out of two lots", y.out(), 501);
    }

    private static void advanceUpToHalf(int reserve, int half) {
        DroitLine x = Check.open(reserve, NO_ARTIST);
        Check.fails((half + 1) + " of " + reserve, Check.ARGUMENT, () -> x.advance(0, half + 1));
        Check.same(half + " of " + reserve, x.advance(0, half), half);
    }

    private static void advanceUpToHalfOfTheReserve() {
        Check.sentence("at most half of its reserve");
        advanceUpToHalf(50, 25);
        advanceUpToHalf(99, 25);
        advanceUpToHalf(1150, 550);
        advanceUpToHalf(TOP, 500000);
        DroitLine x = Check.open(49, NO_ARTIST);
        Check.fails("1 of a reserve of 0", Check.ARGUMENT, () -> x.advance(0, 1));
        DroitLine y = Check.sold(1000, NO_ARTIST);
        Check.fails("half of the price is no matter", Check.ARGUMENT, () -> y.advance(0, 501));
        DroitLine z = Check.open(1000, NO_ARTIST);
        Check.reopen(z, 3000);
        Check.same("of the reserve as it is", z.advance(0, 1500), 1500);
    }

    private static void interestOfDaysAndRate() {
        Check.sentence("It bears interest, in hundred-thousandths for each day, 20 at first: from its day to the day on"
                + " which the lot is settled, by the rate as it is then: the advance times the days times the rate,"
                + " divided by 100000");
        DroitLine x = Check.open(10000, NO_ARTIST);
        x.days(9);
        x.advance(0, 5000);
        Check.same("on its day", x.interest(0), 0);
        x.days(1);
        Check.same("a day later, at first", x.interest(0), 1);
        x.rate(19);
        Check.same("at 19, 0.95", x.interest(0), 0);
        x.rate(0);
        Check.same("at 0", x.interest(0), 0);
        x.rate(100);
        Check.same("at 100", x.interest(0), 5);
        x.bid(0, 0, TOP);
        x.hammer(0);
        x.pay(0);
        x.days(200);
        Check.same("settled by the rate as it is then", x.settle(0), 10000 - 1000 - 5000 - 5 * 201);
        DroitLine y = Check.open(TOP, NO_ARTIST);
        y.advance(0, 500000);
        y.rate(100);
        Check.passDays(y, 7300);
        Check.same("the greatest", y.interest(0), 3650000);
        DroitLine z = Check.open(10000, NO_ARTIST);
        z.advance(0, 5000);
        z.bid(0, 0, TOP);
        z.hammer(0);
        z.pay(0);
        Check.same("settled on its day", z.settle(0), 4000);
    }

    /** A lot of price 500 with an advance, settled on the day of the advance. */
    private static DroitLine settledWithAdvance(int advance, int due) {
        DroitLine x = Check.open(1000, NO_ARTIST);
        x.advance(0, advance);
        Check.reopen(x, 500);
        x.bid(0, 0, 500);
        x.hammer(0);
        x.pay(0);
        Check.same("settle with an advance of " + advance, x.settle(0), due);
        return x;
    }

    private static void settlingAboutNothing() {
        Check.sentence("less the advance and its interest; what is below 0 is owed by the seller, and counts as paid"
                + " back by them at once");
        Check.same("out, above 0", settledWithAdvance(449, 1).out(), 450);
        Check.same("out, just 0", settledWithAdvance(450, 0).out(), 450);
        Check.same("out, below 0", settledWithAdvance(451, -1).out(), 450);
        Check.same("out, far below 0", settledWithAdvance(500, -50).out(), 450);
        Check.same("held, far below 0", settledWithAdvance(500, -50).held(), 0);
        Check.same("state, far below 0", settledWithAdvance(500, -50).state(0), DroitLine.SETTLED);
    }

    private static void artistGetsTheShare() {
        Check.sentence("The artist gets the share. It is SETTLED then");
        DroitLine x = Check.paid(1000, LIVES);
        Check.same("settle at 1000", x.settle(0), 1000 - 100 - 40);
        Check.same("out at 1000", x.out(), 900);
        DroitLine y = Check.paid(950, LIVES);
        Check.same("settle at 950", y.settle(0), 950 - 95);
        Check.same("out at 950", y.out(), 855);
        DroitLine z = Check.paid(TOP, LIVES);
        Check.same("settle at the top", z.settle(0), TOP - 100000 - 12500);
        Check.same("out at the top", z.out(), 900000);
        Check.same("state", z.state(0), DroitLine.SETTLED);
    }

    private static void moneyIn() {
        Check.sentence("In is what buyers paid for lots and gaps");
        DroitLine x = resold(1000, 400);
        Check.same("for a lot, with a gap that is owed", x.in(), 500);
        x.payGaps(9);
        Check.same("for a lot and a gap", x.in(), 1100);
        x.settle(0);
        Check.same("settling brings nothing in", x.in(), 1100);
        Check.same("a sale brings nothing in", Check.inState(SOLD).in(), 0);
    }

    private static void moneyOut() {
        Check.sentence("Out is all advances, what sellers got at settlings (below 0, too), and what artists got");
        DroitLine x = Check.open(TOP, LIVES);
        x.advance(0, 500000);
        Check.same("an advance", x.out(), 500000);
        x.rate(100);
        Check.passDays(x, 7300);
        Check.reopen(x, 1000);
        x.bid(0, 0, 1000);
        x.hammer(0);
        x.pay(0);
        Check.same("a payment sends nothing out", x.out(), 500000);
        Check.same("settle", x.settle(0), 1000 - 100 - 40 - 500000 - 3650000);
        Check.same("below 0 in all", x.out(), 900 - 3650000);
    }

    private static void moneyKept() {
        Check.sentence("Kept are the fees of PAID and SETTLED lots, commissions and interest of SETTLED ones, and"
                + " gaps that were paid");
        DroitLine x = Check.open(10000, NO_ARTIST);
        x.advance(0, 5000);
        Check.sellAndDefault(x, 9);
        Check.reopen(x, 6000);
        x.bid(0, 0, TOP);
        x.days(1);
        x.hammer(0);
        Check.same("no fee of a SOLD lot", x.kept(), 0);
        x.pay(0);
        Check.same("the fee of a PAID lot, no interest, no gap that is owed", x.kept(), 1500);
        x.payGaps(9);
        Check.same("and the gap", x.kept(), 5500);
        x.settle(0);
        Check.same("and commission and interest when it is SETTLED", x.kept(), 6101);
    }

    private static void moneyHeld() {
        Check.sentence("Held is in less out less kept");
        Check.same("of a new house", new DroitLine().held(), 0);
        DroitLine x = Check.open(1000, LIVES);
        x.advance(0, 500);
        Check.same("below 0", x.held(), -500);
        x.bid(0, 0, 1000);
        x.hammer(0);
        x.pay(0);
        Check.same("of a PAID lot", x.held(), 500);
        x.settle(0);
        Check.same("of a SETTLED lot", x.held(), 0);
    }
}
