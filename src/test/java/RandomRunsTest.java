import java.util.Random;

/**
 * Random runs of 512 calls, the same at each start: every answer is compared with Model's, held is
 * what the lots hold, and a call that throws leaves every statement as it was.
 */
public final class RandomRunsTest {
    /** The calls; the ones that bring a lot on its way stand here several times. */
    private static final String[] CALLS = {
        "lot", "lot", "bid", "bid", "bid", "bid", "bid", "bid", "hammer", "hammer", "hammer", "again", "again",
        "pay", "pay", "defaults", "defaults", "payGaps", "advance", "advance", "settle", "settle", "commission",
        "rate", "days", "lots", "callOf", "state", "buyerOf", "price", "bids", "fee", "share", "interest", "owes",
        "in", "out", "kept", "held", "heldByLots"};
    private static final String[] OF_LOTS = {"state", "buyerOf", "price", "bids", "share", "interest"};
    private static final String[] OF_HOUSE = {"lots", "in", "out", "kept", "held", "heldByLots"};
    private static final int[] ODD = {Integer.MIN_VALUE, -2, -1, 0, 1, 6, 10, 30, 51, 101, 201, 1799, 1800, 2000,
        2001, 500001, 1000000, 1000001, Integer.MAX_VALUE};

    private final Random random;
    private final DroitLine house = new DroitLine();
    private final Model model = new Model();
    private final int run;

    private RandomRunsTest(int run) {
        this.run = run;
        random = new Random(run);
    }

    public static void main(String[] args) {
        for (int run = 0; run < 400; run++) {
            new RandomRunsTest(run).make();
        }
        Check.end("RandomRunsTest");
    }

    private void make() {
        int lots = 1 + random.nextInt(30);
        for (int step = 0; step < 512; step++) {
            String name = CALLS[random.nextInt(CALLS.length)];
            int a = odd(first(name, lots));
            int b = odd(second(name));
            int c = odd(name.equals("lot") ? artist() : amount());
            String before = statements();
            String got = answer(() -> call(name, a, b, c));
            String due = answer(() -> model.call(name, a, b, c));
            if (!got.equals(due)) {
                Check.complain("run " + run + ", call " + step + ": " + name + " " + a + " " + b + " " + c
                        + " answered " + got + ", due is " + due);
                return;
            }
            if (got.startsWith("class") && !statements().equals(before)) {
                Check.complain("run " + run + ", call " + step + ": " + name + " threw and changed something");
            }
            Check.same("held in run " + run, house.heldByLots(), house.held());
        }
        compareAll();
    }

    private void compareAll() {
        for (int lot = 0; lot < house.lots(); lot++) {
            int number = lot;
            for (String name : OF_LOTS) {
                Check.same(name + " in the end of run " + run, call(name, number, 0, 0), model.call(name, number, 0, 0));
            }
        }
        for (int buyer = 0; buyer < 10; buyer++) {
            Check.same("owes in the end of run " + run, house.owes(buyer), model.call("owes", buyer, 0, 0));
        }
    }

    private int odd(int usual) {
        return random.nextInt(40) == 0 ? ODD[random.nextInt(ODD.length)] : usual;
    }

    private int first(String name, int lots) {
        switch (name) {
            case "lot": return random.nextInt(6);
            case "commission": return random.nextInt(6);
            case "payGaps":
            case "owes": return random.nextInt(10);
            case "callOf":
            case "fee": return amount();
            case "rate": return random.nextInt(101);
            case "days": return 1 + random.nextInt(random.nextBoolean() ? 10 : 200);
            default: return random.nextInt(lots);
        }
    }

    private int second(String name) {
        switch (name) {
            case "bid": return random.nextInt(10);
            case "commission": return random.nextInt(51);
            case "advance": return 1 + amount() / 3;
            default: return amount();
        }
    }

    private int amount() {
        int[] tops = {60, 1100, 6000, 25000, 60000, 250000, 1000000};
        return random.nextInt(1 + tops[random.nextInt(tops.length)]);
    }

    private int artist() {
        int which = random.nextInt(4);
        return which < 2 ? which - 1 : which == 2 ? 1925 + random.nextInt(30) : 1800 + random.nextInt(201);
    }

    private static String answer(Check.Call call) {
        try {
            return Long.toString(call.answer());
        } catch (RuntimeException e) {
            return e.getClass().toString();
        }
    }

    private String statements() {
        StringBuilder text = new StringBuilder();
        for (String name : OF_HOUSE) {
            text.append(call(name, 0, 0, 0)).append(' ');
        }
        for (int lot = 0; lot < house.lots(); lot++) {
            for (String name : OF_LOTS) {
                text.append(call(name, lot, 0, 0)).append(' ');
            }
        }
        for (int buyer = 0; buyer < 10; buyer++) {
            text.append(house.owes(buyer)).append(' ');
        }
        return text.toString();
    }

    private long call(String name, int a, int b, int c) {
        switch (name) {
            case "lot": return house.lot(a, b, c);
            case "bid": return house.bid(a, b, c);
            case "hammer": return house.hammer(a);
            case "again": return house.again(a, b);
            case "lots": return house.lots();
            case "callOf": return house.callOf(a);
            case "pay": return house.pay(a);
            case "defaults": return house.defaults(a);
            case "payGaps": return house.payGaps(a);
            case "advance": return house.advance(a, b);
            case "settle": return house.settle(a);
            case "commission": return house.commission(a, b);
            case "rate": return house.rate(a);
            case "days": return house.days(a);
            case "state": return house.state(a);
            case "buyerOf": return house.buyerOf(a);
            case "price": return house.price(a);
            case "bids": return house.bids(a);
            case "fee": return house.fee(a);
            case "share": return house.share(a);
            case "interest": return house.interest(a);
            case "owes": return house.owes(a);
            case "in": return house.in();
            case "out": return house.out();
            case "kept": return house.kept();
            case "held": return house.held();
            case "heldByLots": return house.heldByLots();
            default: throw new IllegalCallerException(name);
        }
    }
}
