/** What the tests share: comparing answers, expecting exceptions, and short runs that set the scene. */
final class Check {
    interface Call {
        long answer();
    }

    static final Class<? extends RuntimeException> INDEX = IndexOutOfBoundsException.class;
    static final Class<? extends RuntimeException> ARGUMENT = IllegalArgumentException.class;
    static final Class<? extends RuntimeException> STATE = IllegalStateException.class;

    private static int wrong = 0;
    private static String sentence = "";

    private Check() {
    }

    /** Names the sentence of the document that the checks from here on are about. */
    static void sentence(String text) {
        sentence = text;
    }

    static void same(String what, long got, long due) {
        if (got != due) {
            complain(what + " answered " + got + ", due is " + due);
        }
    }

    /** The exception must be of the very class: a subclass is one that the machine threw. */
    static void fails(String what, Class<? extends RuntimeException> due, Call call) {
        try {
            long got = call.answer();
            complain(what + " answered " + got + ", due is " + due.getSimpleName());
        } catch (RuntimeException e) {
            if (e.getClass() != due) {
                complain(what + " threw " + e + ", due is " + due.getSimpleName());
            }
        }
    }

    static void complain(String text) {
        wrong++;
        System.out.println(sentence.isEmpty() ? text : text + " [" + sentence + "]");
    }

    static void end(String test) {
        System.out.println(test + ": " + (wrong == 0 ? "all answers are as due" : wrong + " wrong"));
        if (wrong != 0) {
            System.exit(1);
        }
    }

    /** A house with an OPEN lot 0 of seller 0. */
    static DroitLine open(int reserve, int artist) {
        DroitLine house = new DroitLine();
        house.lot(0, reserve, artist);
        return house;
    }

    /** A house whose lot 0, of seller 0, is sold to buyer 0 at its reserve. */
    static DroitLine sold(int reserve, int artist) {
        DroitLine house = open(reserve, artist);
        house.bid(0, 0, 1000000);
        house.hammer(0);
        return house;
    }

    static DroitLine paid(int reserve, int artist) {
        DroitLine house = sold(reserve, artist);
        house.pay(0);
        return house;
    }

    /** A house with lot 0 of reserve 1000 in the state, with a bid of 900 or above it if it is not OPEN. */
    static DroitLine inState(int state) {
        if (state == DroitLine.OPEN) {
            return open(1000, DroitLine.LIVES);
        }
        if (state == DroitLine.UNSOLD) {
            DroitLine house = open(1000, DroitLine.LIVES);
            house.bid(0, 0, 900);
            house.hammer(0);
            return house;
        }
        DroitLine house = sold(1000, DroitLine.LIVES);
        if (state != DroitLine.SOLD) {
            house.pay(0);
        }
        if (state == DroitLine.SETTLED) {
            house.settle(0);
        }
        return house;
    }

    /** Buyer takes lot 0 at exactly its reserve and defaults. */
    static void sellAndDefault(DroitLine house, int buyer) {
        house.bid(0, buyer, 1000000);
        house.hammer(0);
        house.defaults(0);
    }

    /** Lets lot 0, which is OPEN without bids, go unsold and opens it with another reserve. */
    static void reopen(DroitLine house, int reserve) {
        house.hammer(0);
        house.again(0, reserve);
    }

    static void passDays(DroitLine house, int days) {
        for (int left = days; left > 0; left -= 200) {
            house.days(Math.min(200, left));
        }
    }
}
