import java.util.ArrayList;
import java.util.Comparator;
import java.util.List;
import java.util.TreeMap;

/**
 * A second program of the document, for random runs beside the first. It keeps the history and
 * works every statement out of it anew, so that it does not share the first one's book-keeping.
 */
final class Model {
    private record Bid(int buyer, int call) {
    }

    private record Sale(int buyer, int price, int day) {
    }

    private record Loan(int amount, int day) {
    }

    private record Closing(int sellerGets, int interest, int commission) {
    }

    private static final class Piece {
        int seller;
        int reserve;
        int artist;
        int state = 0;
        final List<Bid> bids = new ArrayList<>();
        /** All sales up to now; those before the last one ended in a default. */
        final List<Sale> sales = new ArrayList<>();
        Loan loan;
        Closing closing;

        Sale sale() {
            return state >= 2 ? sales.get(sales.size() - 1) : null;
        }
    }

    private static final TreeMap<Integer, Integer> STEPS = new TreeMap<>();

    static {
        STEPS.put(0, 50);
        STEPS.put(1000, 100);
        STEPS.put(5000, 500);
        STEPS.put(20000, 1000);
    }

    private final List<Piece> pieces = new ArrayList<>();
    private final int[] hundredths = {10, 10, 10, 10, 10, 10};
    private final long[] gapsPaid = new long[10];
    private int day = 0;
    private int rate = 20;

    /** Makes the call of this name; arguments that it does not take are left out. */
    long call(String name, int a, int b, int c) {
        switch (name) {
            case "lot": return lot(a, b, c);
            case "bid": return bid(a, b, c);
            case "hammer": return hammer(a);
            case "again": return again(a, b);
            case "lots": return pieces.size();
            case "callOf": return callOf(argument(a, 0, 1000000));
            case "pay": return pay(a);
            case "defaults": return defaults(a);
            case "payGaps": return payGaps(a);
            case "advance": return advance(a, b);
            case "settle": return settle(a);
            case "commission": return commission(a, b);
            case "rate": return rate(a);
            case "days": return days(a);
            case "state": return piece(a).state;
            case "buyerOf": return piece(a).sale() == null ? -1 : piece(a).sale().buyer();
            case "price": return piece(a).sale() == null ? -1 : piece(a).sale().price();
            case "bids": return piece(a).bids.size();
            case "fee": return fee(argument(a, 0, 1000000));
            case "share": return share(piece(a));
            case "interest": return interest(piece(a));
            case "owes": return owes(index(a, 10));
            case "in": return in();
            case "out": return out();
            case "kept": return kept();
            case "held": return in() - out() - kept();
            case "heldByLots": return heldByLots();
            default: throw new IllegalCallerException(name);
        }
    }

    private static int index(int value, int size) {
        if (value < 0 || value >= size) {
            throw new IndexOutOfBoundsException();
        }
        return value;
    }

    private static int argument(int value, int least, int most) {
        if (value < least || value > most) {
            throw new IllegalArgumentException();
        }
        return value;
    }

    private static void state(boolean holds) {
        if (!holds) {
            throw new IllegalStateException();
        }
    }

    private Piece piece(int number) {
        return pieces.get(index(number, pieces.size()));
    }

    private static int callOf(int amount) {
        int called = amount;
        while (called % STEPS.floorEntry(called).getValue() != 0) {
            called--;
        }
        return called;
    }

    private int lot(int seller, int reserve, int artist) {
        index(seller, 6);
        argument(reserve, 0, 1000000);
        if (artist != -1 && artist != 0) {
            argument(artist, 1800, 2000);
        }
        state(pieces.size() < 30);
        Piece piece = new Piece();
        piece.seller = seller;
        piece.reserve = callOf(reserve);
        piece.artist = artist;
        pieces.add(piece);
        return pieces.size() - 1;
    }

    private int bid(int number, int buyer, int amount) {
        Piece piece = piece(number);
        index(buyer, 10);
        argument(amount, 1, 1000000);
        state(piece.state == 0);
        Bid bid = new Bid(buyer, callOf(amount));
        for (int i = 0; i < piece.bids.size(); i++) {
            if (piece.bids.get(i).buyer() == buyer) {
                piece.bids.set(i, bid);
                return bid.call();
            }
        }
        piece.bids.add(bid);
        return bid.call();
    }

    private int hammer(int number) {
        Piece piece = piece(number);
        state(piece.state == 0);
        // A stable sort: bids alike stay in the order in which they were left.
        List<Bid> sorted = new ArrayList<>(piece.bids);
        sorted.sort(Comparator.comparingInt(Bid::call).reversed());
        if (sorted.isEmpty() || sorted.get(0).call() < piece.reserve) {
            piece.state = 1;
            return -1;
        }
        Bid best = sorted.get(0);
        int price = piece.reserve;
        if (sorted.size() > 1) {
            int other = sorted.get(1).call();
            price = other + STEPS.floorEntry(other).getValue();
            price = price < piece.reserve ? piece.reserve : price;
            price = price > best.call() ? best.call() : price;
        } else if (piece.reserve == 0) {
            price = best.call() < 50 ? best.call() : 50;
        }
        piece.state = 2;
        piece.sales.add(new Sale(best.buyer(), price, day));
        return price;
    }

    private int again(int number, int reserve) {
        Piece piece = piece(number);
        argument(reserve, 0, 1000000);
        state(piece.state == 1);
        int gone = piece.bids.size();
        piece.bids.clear();
        piece.reserve = callOf(reserve);
        piece.state = 0;
        return gone;
    }

    private int pay(int number) {
        Piece piece = piece(number);
        state(piece.state == 2);
        piece.state = 3;
        return piece.sale().price() + fee(piece.sale().price());
    }

    private int defaults(int number) {
        Piece piece = piece(number);
        state(piece.state == 2);
        int buyer = piece.sale().buyer();
        piece.bids.clear();
        piece.state = 0;
        return buyer;
    }

    private long payGaps(int buyer) {
        long amount = owes(index(buyer, 10));
        state(amount != 0);
        gapsPaid[buyer] += amount;
        return amount;
    }

    private int advance(int number, int amount) {
        Piece piece = piece(number);
        argument(amount, 1, 1000000);
        argument(2 * amount, 0, piece.reserve);
        state(piece.state < 3 && piece.loan == null);
        piece.loan = new Loan(amount, day);
        return piece.reserve / 2;
    }

    private int settle(int number) {
        Piece piece = piece(number);
        state(piece.state == 3);
        int price = piece.sale().price();
        int commission = price * hundredths[piece.seller] / 100;
        int interest = (int) interest(piece);
        int loan = piece.loan == null ? 0 : piece.loan.amount();
        int gets = price - commission - share(piece) - loan - interest;
        piece.closing = new Closing(gets, interest, commission);
        piece.state = 4;
        return gets;
    }

    private int commission(int seller, int now) {
        index(seller, 6);
        argument(now, 0, 50);
        int before = hundredths[seller];
        hundredths[seller] = now;
        return before;
    }

    private int rate(int now) {
        argument(now, 0, 100);
        int before = rate;
        rate = now;
        return before;
    }

    private int days(int days) {
        argument(days, 1, 200);
        state(day + days <= 7300);
        day += days;
        return day;
    }

    private static int fee(int price) {
        int fee = Math.min(price, 10000) * 25 / 100;
        if (price > 10000) {
            fee += (Math.min(price, 50000) - 10000) * 20 / 100;
        }
        if (price > 50000) {
            fee += (price - 50000) * 12 / 100;
        }
        return fee;
    }

    private static int share(Piece piece) {
        Sale sale = piece.sale();
        if (sale == null || piece.artist == -1 || sale.price() < 1000) {
            return 0;
        }
        if (piece.artist >= 1800 && 2000 + sale.day() / 365 > piece.artist + 70) {
            return 0;
        }
        int price = sale.price();
        int share = Math.min(price, 50000) * 4 / 100;
        if (price > 50000) {
            share += (Math.min(price, 200000) - 50000) * 3 / 100;
        }
        if (price > 200000) {
            share += (price - 200000) / 100;
        }
        return Math.min(share, 12500);
    }

    private long interest(Piece piece) {
        if (piece.closing != null) {
            return piece.closing.interest();
        }
        return piece.loan == null ? 0 : (long) piece.loan.amount() * (day - piece.loan.day()) * rate / 100000;
    }

    private long owes(int buyer) {
        long owed = -gapsPaid[buyer];
        for (Piece piece : pieces) {
            if (piece.state >= 3 && piece.sales.size() > 1 && piece.sales.get(0).buyer() == buyer) {
                owed += Math.max(0, piece.sales.get(0).price() - piece.sale().price());
            }
        }
        return owed;
    }

    private long in() {
        long sum = gapsPaidByAll();
        for (Piece piece : pieces) {
            sum += piece.state >= 3 ? piece.sale().price() + fee(piece.sale().price()) : 0;
        }
        return sum;
    }

    private long out() {
        long sum = 0;
        for (Piece piece : pieces) {
            sum += piece.loan == null ? 0 : piece.loan.amount();
            sum += piece.closing == null ? 0 : piece.closing.sellerGets() + share(piece);
        }
        return sum;
    }

    private long kept() {
        long sum = gapsPaidByAll();
        for (Piece piece : pieces) {
            sum += piece.state >= 3 ? fee(piece.sale().price()) : 0;
            sum += piece.closing == null ? 0 : piece.closing.commission() + piece.closing.interest();
        }
        return sum;
    }

    private long heldByLots() {
        long sum = 0;
        for (Piece piece : pieces) {
            sum += piece.state == 3 ? piece.sale().price() : 0;
            sum -= piece.state < 4 && piece.loan != null ? piece.loan.amount() : 0;
        }
        return sum;
    }

    private long gapsPaidByAll() {
        long sum = 0;
        for (long paid : gapsPaid) {
            sum += paid;
        }
        return sum;
    }
}
