/** The account of an auction house: lots, bids, fees, artists' shares, gaps, advances and all money. */
public final class DroitLine {
    public static final int NONE = -1;
    public static final int OPEN = 0, UNSOLD = 1, SOLD = 2, PAID = 3, SETTLED = 4;
    public static final int NO_ARTIST = -1, LIVES = 0;

    private static final int SELLERS = 6;
    private static final int BUYERS = 10;
    private static final int MOST_LOTS = 30;
    private static final int MOST_AMOUNT = 1000000;
    private static final int FIRST_DEATH_YEAR = 1800;
    private static final int LAST_DEATH_YEAR = 2000;
    private static final int FIRST_COMMISSION = 10;
    private static final int MOST_COMMISSION = 50;
    private static final int FIRST_RATE = 20;
    private static final int MOST_RATE = 100;
    private static final int RATE_PARTS = 100000;
    private static final int MOST_DAYS_AT_ONCE = 200;
    private static final int LAST_DAY = 7300;
    private static final int FIRST_YEAR = 2000;
    private static final int DAYS_IN_YEAR = 365;
    private static final int PRICE_WITHOUT_RESERVE = 50;
    private static final int LEAST_PRICE_WITH_SHARE = 1000;
    private static final int YEARS_WITH_SHARE = 70;
    private static final int MOST_SHARE = 12500;

    private final Lot[] house;
    private final int[] commissions;
    private final int[] owedForGaps;
    private int lotCount;
    private int today;
    private int dailyRate;
    private long received;
    private long paidOut;
    private long earned;

    public DroitLine() {
        house = new Lot[MOST_LOTS];
        commissions = new int[SELLERS];
        owedForGaps = new int[BUYERS];
        for (int seller = 0; seller < commissions.length; seller++) {
            commissions[seller] = FIRST_COMMISSION;
        }
        dailyRate = FIRST_RATE;
    }

    // ---- lots and bids

    public int lot(int seller, int reserve, int artist)
            throws IndexOutOfBoundsException, IllegalArgumentException, IllegalStateException {
        checkSeller(seller);
        checkRange(reserve, 0, MOST_AMOUNT);
        checkArtist(artist);
        if (lotCount < 0 || lotCount >= house.length) {
            throw new IllegalStateException("no room for another lot");
        }
        int number = lotCount;
        house[number] = new Lot(seller, calledAmount(reserve), artist);
        lotCount = number + 1;
        return number;
    }

    public int bid(int lot, int buyer, int amount)
            throws IndexOutOfBoundsException, IllegalArgumentException, IllegalStateException {
        Lot wanted = findLot(lot);
        checkBuyer(buyer);
        checkRange(amount, 1, MOST_AMOUNT);
        checkState(wanted, OPEN);
        int taken = calledAmount(amount);
        wanted.offers.leave(buyer, taken);
        return taken;
    }

    public int hammer(int lot) throws IndexOutOfBoundsException, IllegalStateException {
        Lot called = findLot(lot);
        checkState(called, OPEN);
        Offers offers = called.offers;
        int best = offers.placeOfBest();
        int highest = offers.amountAt(best);
        // Without bids highest is NONE, which is below a reserve of 0 too.
        if (highest < called.reserve) {
            called.state = UNSOLD;
            return NONE;
        }
        called.state = SOLD;
        called.winner = offers.buyerAt(best);
        called.hammerPrice = priceFor(called.reserve, highest, offers.highestBeside(best));
        called.saleYear = FIRST_YEAR + today / DAYS_IN_YEAR;
        return called.hammerPrice;
    }

    public int again(int lot, int reserve)
            throws IndexOutOfBoundsException, IllegalArgumentException, IllegalStateException {
        Lot unsold = findLot(lot);
        checkRange(reserve, 0, MOST_AMOUNT);
        checkState(unsold, UNSOLD);
        int gone = unsold.offers.count;
        unsold.open(calledAmount(reserve));
        return gone;
    }

    public int lots() {
        return lotCount;
    }

    public int callOf(int amount) throws IllegalArgumentException {
        checkRange(amount, 0, MOST_AMOUNT);
        return calledAmount(amount);
    }

    // ---- payments

    public int pay(int lot) throws IndexOutOfBoundsException, IllegalStateException {
        Lot bought = findLot(lot);
        checkState(bought, SOLD);
        int charge = feeFor(bought.hammerPrice);
        received += bought.hammerPrice + charge;
        earned += charge;
        bought.state = PAID;
        closeGap(bought);
        return bought.hammerPrice + charge;
    }

    public int defaults(int lot) throws IndexOutOfBoundsException, IllegalStateException {
        Lot unpaid = findLot(lot);
        checkState(unpaid, SOLD);
        int defaulter = unpaid.winner;
        if (unpaid.gapBuyer == NONE) {
            unpaid.gapBuyer = defaulter;
            unpaid.gapPrice = unpaid.hammerPrice;
        }
        unpaid.open(unpaid.reserve);
        return defaulter;
    }

    public int payGaps(int buyer) throws IndexOutOfBoundsException, IllegalStateException {
        int amount = owedBy(buyer);
        if (amount == 0) {
            throw new IllegalStateException("nothing is owed");
        }
        addToDebt(buyer, -amount);
        received += amount;
        earned += amount;
        return amount;
    }

    public int advance(int lot, int amount)
            throws IndexOutOfBoundsException, IllegalArgumentException, IllegalStateException {
        Lot pledged = findLot(lot);
        int most = pledged.reserve / 2;
        checkRange(amount, 1, most);
        if (pledged.state == PAID || pledged.state == SETTLED || pledged.advanced > 0) {
            throw new IllegalStateException("no advance for this lot any more");
        }
        pledged.advanced = amount;
        pledged.advanceDay = today;
        paidOut += amount;
        return most;
    }

    public int settle(int lot) throws IndexOutOfBoundsException, IllegalStateException {
        Lot paid = findLot(lot);
        checkState(paid, PAID);
        int price = paid.hammerPrice;
        int commissionOnIt = price * hundredthsOf(paid.seller) / 100;
        int artistGets = shareOf(paid);
        int interestOnIt = interestOf(paid);
        int sellerGets = price - commissionOnIt - artistGets - paid.advanced - interestOnIt;
        paidOut += sellerGets + artistGets;
        earned += commissionOnIt + interestOnIt;
        paid.interestAtSettling = interestOnIt;
        paid.state = SETTLED;
        return sellerGets;
    }

    public int commission(int seller, int hundredths)
            throws IndexOutOfBoundsException, IllegalArgumentException {
        checkSeller(seller);
        checkRange(hundredths, 0, MOST_COMMISSION);
        int before = commissions[seller];
        commissions[seller] = hundredths;
        return before;
    }

    public int rate(int rate) throws IllegalArgumentException {
        checkRange(rate, 0, MOST_RATE);
        int before = dailyRate;
        dailyRate = rate;
        return before;
    }

    public int days(int days) throws IllegalArgumentException, IllegalStateException {
        checkRange(days, 1, MOST_DAYS_AT_ONCE);
        if (today + days > LAST_DAY) {
            throw new IllegalStateException("the last day would be behind");
        }
        today += days;
        return today;
    }

    // ---- statements

    public int state(int lot) throws IndexOutOfBoundsException {
        return findLot(lot).state;
    }

    public int buyerOf(int lot) throws IndexOutOfBoundsException {
        return findLot(lot).winner;
    }

    public int price(int lot) throws IndexOutOfBoundsException {
        return findLot(lot).hammerPrice;
    }

    public int bids(int lot) throws IndexOutOfBoundsException {
        return findLot(lot).offers.count;
    }

    public int fee(int price) throws IllegalArgumentException {
        checkRange(price, 0, MOST_AMOUNT);
        return feeFor(price);
    }

    public int share(int lot) throws IndexOutOfBoundsException {
        return shareOf(findLot(lot));
    }

    public int interest(int lot) throws IndexOutOfBoundsException {
        return interestOf(findLot(lot));
    }

    public int owes(int buyer) throws IndexOutOfBoundsException {
        return owedBy(buyer);
    }

    // ---- money

    public long in() {
        return received;
    }

    public long out() {
        return paidOut;
    }

    public long kept() {
        return earned;
    }

    public long held() {
        return received - paidOut - earned;
    }

    public long heldByLots() {
        long sum = 0;
        for (Lot each : house) {
            if (each != null) {
                sum += each.heldForIt();
            }
        }
        return sum;
    }

    // ---- what a call may be about

    private Lot findLot(int number) {
        Lot found = number >= 0 && number < house.length ? house[number] : null;
        if (found == null) {
            throw new IndexOutOfBoundsException("no such lot");
        }
        return found;
    }

    private static void checkSeller(int seller) {
        if (seller < 0 || seller >= SELLERS) {
            throw new IndexOutOfBoundsException("no such seller");
        }
    }

    private static void checkBuyer(int buyer) {
        if (buyer < 0 || buyer >= BUYERS) {
            throw new IndexOutOfBoundsException("no such buyer");
        }
    }

    private static void checkRange(int value, int least, int most) {
        if (value < least || value > most) {
            throw new IllegalArgumentException("out of its range");
        }
    }

    private static void checkArtist(int artist) {
        if (artist != NO_ARTIST && artist != LIVES) {
            checkRange(artist, FIRST_DEATH_YEAR, LAST_DEATH_YEAR);
        }
    }

    private static void checkState(Lot lot, int asked) {
        if (lot.state != asked) {
            throw new IllegalStateException("the lot is in another state");
        }
    }

    // ---- steps and prices

    private static int stepOf(int amount) {
        if (amount < 1000) {
            return 50;
        }
        if (amount < 5000) {
            return 100;
        }
        return amount < 20000 ? 500 : 1000;
    }

    private static int calledAmount(int amount) {
        // Each band of steps begins at a multiple of its step, so this never falls out of the band.
        int step = stepOf(amount);
        return step > 0 ? amount / step * step : amount;
    }

    private static int priceFor(int reserve, int highest, int highestOther) {
        if (highestOther == NONE) {
            return reserve == 0 ? Math.min(PRICE_WITHOUT_RESERVE, highest) : reserve;
        }
        int next = highestOther + stepOf(highestOther);
        return Math.min(highest, Math.max(reserve, next));
    }

    // ---- fees, shares, interest

    /** Hundredths of what of the price lies above one bound and up to the other. */
    private static int ofBand(int price, int above, int upTo, int hundredths) {
        return Math.max(0, Math.min(price, upTo) - above) * hundredths / 100;
    }

    private static int feeFor(int price) {
        return ofBand(price, 0, 10000, 25)
                + ofBand(price, 10000, 50000, 20)
                + ofBand(price, 50000, MOST_AMOUNT, 12);
    }

    private static int shareOf(Lot lot) {
        int price = lot.hammerPrice;
        // The price of an OPEN or UNSOLD lot is NONE, which is too low for a share.
        if (lot.artist == NO_ARTIST || price < LEAST_PRICE_WITH_SHARE || isTooLongDead(lot)) {
            return 0;
        }
        int all = ofBand(price, 0, 50000, 4)
                + ofBand(price, 50000, 200000, 3)
                + ofBand(price, 200000, MOST_AMOUNT, 1);
        return Math.min(MOST_SHARE, all);
    }

    private static boolean isTooLongDead(Lot lot) {
        return lot.artist != LIVES && lot.saleYear - lot.artist > YEARS_WITH_SHARE;
    }

    private int interestOf(Lot lot) {
        if (lot.state == SETTLED) {
            return lot.interestAtSettling;
        }
        // In long, as the product goes up to 500000 * 7300 * 100.
        long days = today - lot.advanceDay;
        return (int) (lot.advanced * days * dailyRate / RATE_PARTS);
    }

    private int hundredthsOf(int seller) {
        checkSeller(seller);
        return commissions[seller];
    }

    // ---- gaps

    private void closeGap(Lot lot) {
        if (lot.gapBuyer == NONE) {
            return;
        }
        addToDebt(lot.gapBuyer, Math.max(0, lot.gapPrice - lot.hammerPrice));
        lot.gapBuyer = NONE;
    }

    private int owedBy(int buyer) {
        checkBuyer(buyer);
        return owedForGaps[buyer];
    }

    private void addToDebt(int buyer, int amount) {
        checkBuyer(buyer);
        owedForGaps[buyer] += amount;
    }

    /** The bids left for one lot, in the order in which their buyers first left one. */
    private static final class Offers {
        private final int[] buyers = new int[BUYERS];
        private final int[] amounts = new int[BUYERS];
        private int count;

        void leave(int buyer, int amount) {
            int place = 0;
            while (place < count && buyerAt(place) != buyer) {
                place++;
            }
            if (place >= buyers.length || place >= amounts.length) {
                return;
            }
            buyers[place] = buyer;
            amounts[place] = amount;
            count = Math.max(count, place + 1);
        }

        int buyerAt(int place) {
            return place >= 0 && place < count && place < buyers.length ? buyers[place] : NONE;
        }

        int amountAt(int place) {
            return place >= 0 && place < count && place < amounts.length ? amounts[place] : NONE;
        }

        /** The place of the highest bid, of several alike of the first; NONE without bids. */
        int placeOfBest() {
            int best = NONE;
            for (int place = 0; place < count; place++) {
                if (amountAt(place) > amountAt(best)) {
                    best = place;
                }
            }
            return best;
        }

        int highestBeside(int except) {
            int highest = NONE;
            for (int place = 0; place < count; place++) {
                if (place != except) {
                    highest = Math.max(highest, amountAt(place));
                }
            }
            return highest;
        }
    }

    private static final class Lot {
        private final int seller;
        private final int artist;
        private final Offers offers;
        private int reserve;
        private int state;
        private int winner;
        private int hammerPrice;
        private int saleYear;
        /** Who defaulted first since the lot was taken; NONE without an open gap. */
        private int gapBuyer;
        private int gapPrice;
        /** The advance; 0 means that there was none, as an advance is at least 1. */
        private int advanced;
        private int advanceDay;
        private int interestAtSettling;

        Lot(int seller, int reserve, int artist) {
            this.seller = seller;
            this.artist = artist;
            this.reserve = reserve;
            offers = new Offers();
            state = OPEN;
            winner = NONE;
            hammerPrice = NONE;
            gapBuyer = NONE;
        }

        void open(int newReserve) {
            offers.count = 0;
            reserve = newReserve;
            state = OPEN;
            winner = NONE;
            hammerPrice = NONE;
        }

        int heldForIt() {
            if (state == SETTLED) {
                return 0;
            }
            return (state == PAID ? hammerPrice : 0) - advanced;
        }
    }
}
