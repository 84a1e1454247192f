import java.util.function.Supplier;

/**
 * A call that throws an exception changes nothing, and of several exceptions the one that is listed
 * first is thrown: each refused call is made on one of two houses alike, and then both must answer
 * alike to calls that bring all to light that they keep.
 */
public final class RefusedCallsTest {
    private interface HouseCall {
        long answer(DroitLine house);
    }

    private static final int TOP = 1000000;
    /** An artist whose share ends with the first year of sales. */
    private static final int LAST_WITH_SHARE = 1930;

    /** The lots of a busy house. */
    private static final int OPEN_WITH_BIDS = 0;
    private static final int OPEN_WITH_GAP = 1;
    private static final int UNSOLD = 2;
    private static final int SOLD = 3;
    private static final int PAID = 4;
    private static final int SETTLED = 5;
    private static final int NO_LOT = 6;
    private static final int[] NOT_OPEN = {UNSOLD, SOLD, PAID, SETTLED};
    private static final int[] NOT_UNSOLD = {OPEN_WITH_BIDS, OPEN_WITH_GAP, SOLD, PAID, SETTLED};
    private static final int[] NOT_SOLD = {OPEN_WITH_BIDS, OPEN_WITH_GAP, UNSOLD, PAID, SETTLED};
    private static final int[] NOT_PAID = {OPEN_WITH_BIDS, OPEN_WITH_GAP, UNSOLD, SOLD, SETTLED};
    private static final int[] WITH_ADVANCE = {OPEN_WITH_BIDS, SOLD, PAID, SETTLED};
    private static final int[] NO_AMOUNT = {Integer.MIN_VALUE, -1, 0, TOP + 1, Integer.MAX_VALUE};
    private static final int[] NO_RESERVE = {Integer.MIN_VALUE, -1, TOP + 1, Integer.MAX_VALUE};
    private static final int[] NO_ADVANCE = {Integer.MIN_VALUE, -1, 0, 501, TOP + 1, Integer.MAX_VALUE};

    private RefusedCallsTest() {
    }

    public static void main(String[] args) {
        theSceneIsAsItSays();
        Check.sentence("A call that throws an exception changes nothing");
        refusedLots();
        refusedBids();
        refusedHammers();
        refusedAgain();
        refusedPayments();
        refusedGaps();
        refusedAdvances();
        refusedSettings();
        refusedDays();
        refusedStatements();
        Check.sentence("If several exceptions apply to a call, the one that its comment lists first is thrown");
        firstOfLot();
        firstOfBid();
        firstOfAgain();
        firstOfAdvance();
        firstOfCommission();
        firstOfDays();
        Check.end("RefusedCallsTest");
    }

    private static DroitLine busy() {
        DroitLine x = new DroitLine();
        x.commission(1, 25);
        x.rate(33);
        x.days(150);
        for (int lot = 0; lot < NO_LOT; lot++) {
            x.lot(1, 1000, LAST_WITH_SHARE);
        }
        for (int lot : WITH_ADVANCE) {
            x.advance(lot, 400);
        }
        x.days(200);
        x.bid(OPEN_WITH_BIDS, 3, 2000);
        x.bid(OPEN_WITH_BIDS, 1, 2000);
        x.bid(OPEN_WITH_BIDS, 5, 1800);
        sellForMore(x, OPEN_WITH_GAP, 9);
        x.defaults(OPEN_WITH_GAP);
        x.bid(UNSOLD, 2, 950);
        x.bid(UNSOLD, 4, 900);
        x.hammer(UNSOLD);
        sellForMore(x, SOLD, 6);
        sellForMore(x, PAID, 8);
        x.defaults(PAID);
        x.bid(PAID, 0, 1000);
        x.hammer(PAID);
        x.pay(PAID);
        sellForMore(x, SETTLED, 6);
        x.pay(SETTLED);
        x.settle(SETTLED);
        x.days(5);
        return x;
    }

    /** Sells a lot above its reserve of 1000, for 1600. */
    private static void sellForMore(DroitLine x, int lot, int buyer) {
        x.bid(lot, buyer, 3000);
        x.bid(lot, 7, 1500);
        x.hammer(lot);
    }

    private static DroitLine full() {
        DroitLine x = busy();
        while (x.lots() < 30) {
            x.lot(0, 1000, LAST_WITH_SHARE);
        }
        return x;
    }

    private static DroitLine ended() {
        DroitLine x = busy();
        Check.passDays(x, 7300 - 355);
        return x;
    }

    private static void theSceneIsAsItSays() {
        DroitLine x = busy();
        int[] states = {0, 0, 1, 2, 3, 4};
        for (int lot = 0; lot < NO_LOT; lot++) {
            Check.same("state of lot " + lot, x.state(lot), states[lot]);
        }
        Check.same("owed by 8", x.owes(8), 600);
        Check.same("lots of a full house", full().lots(), 30);
        Check.same("the next day", busy().days(1), 356);
    }

    private static void refused(String what, Class<? extends RuntimeException> due, Supplier<DroitLine> scene,
            HouseCall call) {
        for (boolean payment : new boolean[] {true, false}) {
            DroitLine asked = scene.get();
            Check.fails(what, due, () -> call.answer(asked));
            Check.fails(what + " again", due, () -> call.answer(asked));
            String got = future(asked, payment);
            String expected = future(scene.get(), payment);
            if (!got.equals(expected)) {
                Check.complain(what + " changed something: " + got + ", without it " + expected);
            }
        }
    }

    private static void refused(String what, Class<? extends RuntimeException> due, HouseCall call) {
        refused(what, due, RefusedCallsTest::busy, call);
    }

    /** The answers to calls that bring to light what a house keeps; SOLD lots are paid, or defaulted. */
    private static String future(DroitLine x, boolean payment) {
        StringBuilder text = new StringBuilder();
        statements(text, x);
        note(text, "rate", () -> x.rate(50));
        for (int seller = 0; seller < 6; seller++) {
            int number = seller;
            note(text, "commission", () -> x.commission(number, 5));
        }
        note(text, "days", () -> x.days(20));
        // Not all 30, as a house is used for 512 calls at most.
        for (int lot = 0; lot < Math.min(8, x.lots()); lot++) {
            if (!payment) {
                int number = lot;
                note(text, "\ndefaults", () -> x.defaults(number));
            }
            futureOfLot(text, x, lot);
        }
        for (int buyer = 0; buyer < 10; buyer++) {
            int number = buyer;
            note(text, "payGaps", () -> x.payGaps(number));
        }
        statements(text, x);
        return text.toString();
    }

    private static void futureOfLot(StringBuilder text, DroitLine x, int lot) {
        note(text, "\nadvance", () -> x.advance(lot, 1));
        note(text, "again", () -> x.again(lot, 700));
        note(text, "bid", () -> x.bid(lot, 7, 1050));
        note(text, "hammer", () -> x.hammer(lot));
        note(text, "buyerOf", () -> x.buyerOf(lot));
        note(text, "share", () -> x.share(lot));
        note(text, "pay", () -> x.pay(lot));
        note(text, "interest", () -> x.interest(lot));
        note(text, "settle", () -> x.settle(lot));
    }

    private static void statements(StringBuilder text, DroitLine x) {
        note(text, "\nlots", x::lots);
        note(text, "in", x::in);
        note(text, "out", x::out);
        note(text, "kept", x::kept);
        note(text, "held", x::held);
        note(text, "heldByLots", x::heldByLots);
        for (int buyer = 0; buyer < 10; buyer++) {
            int number = buyer;
            note(text, "owes", () -> x.owes(number));
        }
        for (int lot = 0; lot < Math.min(8, x.lots()); lot++) {
            int number = lot;
            note(text, "\nstate", () -> x.state(number));
            note(text, "buyerOf", () -> x.buyerOf(number));
            note(text, "price", () -> x.price(number));
            note(text, "bids", () -> x.bids(number));
            note(text, "share", () -> x.share(number));
            note(text, "interest", () -> x.interest(number));
        }
    }

    private static void note(StringBuilder text, String name, Check.Call call) {
        text.append(name).append(' ');
        try {
            text.append(call.answer());
        } catch (RuntimeException e) {
            text.append(e.getClass().getSimpleName());
        }
        text.append("; ");
    }

    private static void refusedLots() {
        for (int seller : new int[] {-1, 6}) {
            refused("lot of seller " + seller, Check.INDEX, x -> x.lot(seller, 100, 0));
        }
        for (int reserve : NO_RESERVE) {
            refused("lot of reserve " + reserve, Check.ARGUMENT, x -> x.lot(0, reserve, 0));
        }
        for (int artist : new int[] {-2, 1, 1799, 2001}) {
            refused("lot of artist " + artist, Check.ARGUMENT, x -> x.lot(0, 100, artist));
        }
        refused("lot in a full house", Check.STATE, RefusedCallsTest::full, x -> x.lot(0, 100, 0));
    }

    private static void refusedBids() {
        for (int lot : new int[] {-1, NO_LOT}) {
            refused("bid for lot " + lot, Check.INDEX, x -> x.bid(lot, 1, 100));
        }
        for (int buyer : new int[] {-1, 10}) {
            refused("bid of buyer " + buyer, Check.INDEX, x -> x.bid(OPEN_WITH_BIDS, buyer, 100));
        }
        for (int amount : NO_AMOUNT) {
            refused("bid of " + amount, Check.ARGUMENT, x -> x.bid(OPEN_WITH_BIDS, 0, amount));
            refused("bid of " + amount + " in place of another", Check.ARGUMENT,
                    x -> x.bid(OPEN_WITH_BIDS, 3, amount));
        }
        for (int lot : NOT_OPEN) {
            refused("bid for lot " + lot, Check.STATE, x -> x.bid(lot, 0, 5000));
            refused("bid of the first for lot " + lot, Check.STATE, x -> x.bid(lot, 6, 5000));
        }
    }

    private static void refusedHammers() {
        for (int lot : new int[] {-1, NO_LOT}) {
            refused("hammer for lot " + lot, Check.INDEX, x -> x.hammer(lot));
        }
        for (int lot : NOT_OPEN) {
            refused("hammer for lot " + lot, Check.STATE, x -> x.hammer(lot));
        }
    }

    private static void refusedAgain() {
        for (int lot : new int[] {-1, NO_LOT}) {
            refused("again for lot " + lot, Check.INDEX, x -> x.again(lot, 500));
        }
        for (int reserve : NO_RESERVE) {
            refused("again with " + reserve, Check.ARGUMENT, x -> x.again(UNSOLD, reserve));
        }
        for (int lot : NOT_UNSOLD) {
            refused("again for lot " + lot, Check.STATE, x -> x.again(lot, 500));
        }
    }

    private static void refusedPayments() {
        for (int lot : new int[] {-1, NO_LOT}) {
            refused("pay for lot " + lot, Check.INDEX, x -> x.pay(lot));
            refused("defaults of lot " + lot, Check.INDEX, x -> x.defaults(lot));
            refused("settle for lot " + lot, Check.INDEX, x -> x.settle(lot));
        }
        for (int lot : NOT_SOLD) {
            refused("pay for lot " + lot, Check.STATE, x -> x.pay(lot));
            refused("defaults of lot " + lot, Check.STATE, x -> x.defaults(lot));
        }
        for (int lot : NOT_PAID) {
            refused("settle for lot " + lot, Check.STATE, x -> x.settle(lot));
        }
    }

    private static void refusedGaps() {
        for (int buyer : new int[] {-1, 10}) {
            refused("payGaps of buyer " + buyer, Check.INDEX, x -> x.payGaps(buyer));
        }
        for (int buyer : new int[] {0, 7, 9}) {
            refused("payGaps of buyer " + buyer, Check.STATE, x -> x.payGaps(buyer));
        }
    }

    private static void refusedAdvances() {
        for (int lot : new int[] {-1, NO_LOT}) {
            refused("advance for lot " + lot, Check.INDEX, x -> x.advance(lot, 1));
        }
        for (int amount : NO_ADVANCE) {
            refused("advance of " + amount, Check.ARGUMENT, x -> x.advance(UNSOLD, amount));
        }
        for (int lot : WITH_ADVANCE) {
            refused("second advance for lot " + lot, Check.STATE, x -> x.advance(lot, 500));
        }
        refused("advance for a PAID lot", Check.STATE, () -> paidAtLast(false), x -> x.advance(SOLD, 500));
        refused("advance for a SETTLED lot", Check.STATE, () -> paidAtLast(true), x -> x.advance(SOLD, 500));
    }

    /** A house whose lot SOLD had no advance, and is PAID or SETTLED. */
    private static DroitLine paidAtLast(boolean settled) {
        DroitLine x = new DroitLine();
        for (int lot = 0; lot <= SOLD; lot++) {
            x.lot(0, 1000, LAST_WITH_SHARE);
        }
        sellForMore(x, SOLD, 6);
        x.pay(SOLD);
        if (settled) {
            x.settle(SOLD);
        }
        x.days(5);
        return x;
    }

    private static void refusedSettings() {
        for (int seller : new int[] {-1, 6}) {
            refused("commission of seller " + seller, Check.INDEX, x -> x.commission(seller, 40));
        }
        for (int hundredths : new int[] {-1, 51}) {
            refused("commission of " + hundredths, Check.ARGUMENT, x -> x.commission(1, hundredths));
        }
        for (int rate : new int[] {-1, 101}) {
            refused("rate of " + rate, Check.ARGUMENT, x -> x.rate(rate));
        }
    }

    private static void refusedDays() {
        for (int days : new int[] {Integer.MIN_VALUE, -1, 0, 201, Integer.MAX_VALUE}) {
            refused("days of " + days, Check.ARGUMENT, x -> x.days(days));
        }
        refused("days behind the last", Check.STATE, RefusedCallsTest::ended, x -> x.days(1));
    }

    private static void refusedStatements() {
        for (int lot : new int[] {-1, NO_LOT}) {
            refused("state of lot " + lot, Check.INDEX, x -> x.state(lot));
            refused("buyerOf of lot " + lot, Check.INDEX, x -> x.buyerOf(lot));
            refused("price of lot " + lot, Check.INDEX, x -> x.price(lot));
            refused("bids of lot " + lot, Check.INDEX, x -> x.bids(lot));
            refused("share of lot " + lot, Check.INDEX, x -> x.share(lot));
            refused("interest of lot " + lot, Check.INDEX, x -> x.interest(lot));
        }
        refused("owes of buyer 10", Check.INDEX, x -> x.owes(10));
        refused("fee of -1", Check.ARGUMENT, x -> x.fee(-1));
        refused("callOf of -1", Check.ARGUMENT, x -> x.callOf(-1));
    }

    private static void firstOfLot() {
        refused("no seller, no reserve", Check.INDEX, x -> x.lot(6, -1, 0));
        refused("no seller, no artist", Check.INDEX, x -> x.lot(-1, 0, 2001));
        refused("no seller, full", Check.INDEX, RefusedCallsTest::full, x -> x.lot(6, 0, 0));
        refused("no reserve, full", Check.ARGUMENT, RefusedCallsTest::full, x -> x.lot(0, TOP + 1, 0));
        refused("no artist, full", Check.ARGUMENT, RefusedCallsTest::full, x -> x.lot(0, 0, 1799));
        refused("all of them", Check.INDEX, RefusedCallsTest::full, x -> x.lot(6, -1, 1));
    }

    private static void firstOfBid() {
        refused("no lot, no amount", Check.INDEX, x -> x.bid(NO_LOT, 0, 0));
        refused("no buyer, no amount", Check.INDEX, x -> x.bid(OPEN_WITH_BIDS, 10, TOP + 1));
        for (int lot : NOT_OPEN) {
            refused("no buyer, not OPEN " + lot, Check.INDEX, x -> x.bid(lot, -1, 100));
            refused("no amount, not OPEN " + lot, Check.ARGUMENT, x -> x.bid(lot, 0, 0));
            refused("amount too large, not OPEN " + lot, Check.ARGUMENT, x -> x.bid(lot, 0, TOP + 1));
            refused("all of them " + lot, Check.INDEX, x -> x.bid(lot, 10, 0));
        }
    }

    private static void firstOfAgain() {
        refused("no lot, no reserve", Check.INDEX, x -> x.again(NO_LOT, -1));
        for (int lot : NOT_UNSOLD) {
            refused("no reserve, not UNSOLD " + lot, Check.ARGUMENT, x -> x.again(lot, -1));
            refused("reserve too large, not UNSOLD " + lot, Check.ARGUMENT, x -> x.again(lot, TOP + 1));
        }
    }

    private static void firstOfAdvance() {
        refused("no lot, no amount", Check.INDEX, x -> x.advance(NO_LOT, 0));
        for (int lot : WITH_ADVANCE) {
            for (int amount : NO_ADVANCE) {
                refused("advance of " + amount + " for lot " + lot, Check.ARGUMENT, x -> x.advance(lot, amount));
            }
        }
        for (int amount : NO_ADVANCE) {
            refused("PAID, advance of " + amount, Check.ARGUMENT, () -> paidAtLast(false),
                    x -> x.advance(SOLD, amount));
            refused("SETTLED, advance of " + amount, Check.ARGUMENT, () -> paidAtLast(true),
                    x -> x.advance(SOLD, amount));
        }
    }

    private static void firstOfCommission() {
        refused("no seller, hundredths too small", Check.INDEX, x -> x.commission(6, -1));
        refused("no seller, hundredths too large", Check.INDEX, x -> x.commission(-1, 51));
    }

    private static void firstOfDays() {
        refused("too many days, behind the last", Check.ARGUMENT, RefusedCallsTest::ended, x -> x.days(201));
        refused("the most days, behind the last", Check.ARGUMENT, RefusedCallsTest::ended,
                x -> x.days(Integer.MAX_VALUE));
    }
}
