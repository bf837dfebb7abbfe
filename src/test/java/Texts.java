/** Texts that several tests tell, with what they come to, counted by hand from the document. */
abstract class Texts {
    static final String BARE = "price 0 most 0 sell 0 need 0;";
    /** 34 bytes, so a line behind it begins at place 34. */
    static final String ROOT = "root " + BARE;

    /**
     * At fork 0 (stock 2) a stock of t = 0 .. 5 can be left, for -1, 1, 5, 9, 13, 17 (x = t - 1), and for 7 more each
     * if the loft is widened. From there fork 1 costs at least 6, 4, 2, 0, -1, -2 and fork 2 at least 24, 16, 8, 0,
     * -1, -2. Together to fork 1: 5, 5, 7, 9, 12, 15; to fork 2: 23, 17, 13, 9, 12, 15.
     */
    static final String HAY = "start 2;cap 5;wide 10 cost 7;hold 1;left 2;root price 3 most 4 sell 1 need 1;"
        + "fork under 0 chance 50 price 2 most 3 sell 1 need 3;fork under 0 chance 50 price 8 most 3 sell 1 need 3;";

    /** Nothing is lawful: fork 2 needs more than can be there. */
    static final String LOST = "cap 3;root price 1 most 3 sell 0 need 0;"
        + "fork under 0 chance 50 price 1 most 9 sell 0 need 1;fork under 0 chance 50 price 1 most 2 sell 0 need 9;";

    /** Not a step is lawful at fork 0 itself. */
    static final String STUCK = "cap 9;root price 1 most 3 sell 0 need 4;fork under 0 chance 100 " + BARE;

    /** Forks 0, 1, 2, 3, 4, each under the one ahead. To do nothing costs 2, 1, 0; then 2 and 1 must be paid: 6. */
    static final String CHAIN = "start 3;cap 9;hold 1;root price 5 most 9 sell 0 need 1;"
        + "fork under 0 chance 100 price 4 most 9 sell 0 need 1;fork under 1 chance 100 price 3 most 9 sell 0 need 1;"
        + "fork under 2 chance 100 price 2 most 9 sell 0 need 1;fork under 3 chance 100 price 1 most 9 sell 0 need 1;";

    /** Fork 7 alone, one in 10^8, costs something: 1. Those under one another: 0, 1, 3, 5, 7. */
    static final String NEEDLE = "cap 1;" + ROOT + "fork under 0 chance 1 " + BARE + "fork under 0 chance 99 " + BARE
        + "fork under 1 chance 1 " + BARE + "fork under 1 chance 99 " + BARE + "fork under 3 chance 1 " + BARE
        + "fork under 3 chance 99 " + BARE + "fork under 5 chance 1 price 1 most 1 sell 0 need 1;fork under 5 chance 99 " + BARE;

    /** Of 0 .. 4 that can be left at fork 0 only 3 and 4 last at fork 2; fork 1 wants nothing. */
    static final String THREE = "cap 4;root price 1 most 4 sell 0 need 0;fork under 0 chance 60 " + BARE
        + "fork under 0 chance 40 price 0 most 0 sell 0 need 3;";

    /** Under fork 1 (surely come to) what matters forks: 2 needs nothing, 3 needs 2; one can buy at 0 and 1 alone. */
    static final String LATE_FORK = "cap 9;hold 1;root price 1 most 9 sell 0 need 0;fork under 0 chance 100 price 4 most 9 sell 0 need 0;"
        + "fork under 1 chance 50 price 0 most 0 sell 0 need 0;fork under 1 chance 50 price 0 most 0 sell 0 need 2;";

    /**
     * To fork 2 it costs x0 + 3 x1, at least 0; to fork 3 10 for each that is lacking of 4 more, at least 2 + 6 = 8.
     * What one rues is least (7) with x0 = 2, x1 = 1; counted from fork 1 on, with 2 there, it would be with x1 = 2.
     */
    static final String RUE = "cap 9;root price 1 most 2 sell 0 need 0;fork under 0 chance 100 price 3 most 9 sell 0 need 0;"
        + "fork under 1 chance 50 price 0 most 0 sell 0 need 0;fork under 1 chance 50 price 10 most 9 sell 0 need 4;";

    /** Only at fork 4, four away, something can be bought: 9, which are worth 5 each if the loft is widened for 1. */
    static final String FAR_END = "wide 9 cost 1;left 5;" + ROOT + "fork under 0 chance 100 " + BARE + "fork under 1 chance 100 " + BARE
        + "fork under 2 chance 100 " + BARE + "fork under 3 chance 100 price 1 most 9 sell 0 need 0;";

    /** Numbered as they stand: 1 and 2 under 0, then 3 under 2, 4 under 1. One is needed at 3 and at 4. */
    static final String CROSSED = "start 2;cap 9;" + ROOT + "fork under 0 chance 50 " + BARE + "fork under 0 chance 50 " + BARE
        + "fork under 2 chance 100 price 1 most 1 sell 0 need 1;fork under 1 chance 100 price 1 most 1 sell 0 need 1;";

    /** To fork 1 it costs 5 + 1 * 2 = 7 with nothing left, to fork 2 5 + 2 * 8 - 1 = 20 with one left over. */
    static LoftTree hayPlanned() {
        LoftTree x = Tape.of(HAY);
        x.plan(0, 1, 0);
        x.plan(1, 1, 0);
        x.plan(2, 2, 0);
        return x;
    }

    /** A loft of one fork with some under it, which all want nothing. */
    static String fan(String head, int... chances) {
        StringBuilder s = new StringBuilder(head);
        for (int c : chances) {
            s.append("fork under 0 chance ").append(c).append(" ").append(BARE);
        }
        return s.toString();
    }

    /** 40 forks of which the last ones have some under them: 30 has 31 .. 35, 35 has 36 .. 39. */
    static String forty() {
        StringBuilder s = new StringBuilder(forks(31));
        for (int f = 31; f < 40; f++) {
            s.append(f <= 35 ? "fork under30chance20" : "fork under35chance25").append("price0most0sell0need0;");
        }
        return s.toString();
    }

    /** So many forks, five under each from 0 on, written as short as can be. */
    static String forks(int n) {
        StringBuilder s = new StringBuilder("root price0most0sell0need0;");
        for (int f = 1; f < n; f++) {
            int last = (f - 1) / 5 == (n - 2) / 5 ? (n - 2) % 5 + 1 : 5;
            int chance = (f - 1) % 5 == 0 ? 100 - 10 * (last - 1) : 10;
            s.append("fork under").append((f - 1) / 5).append("chance").append(chance).append("price0most0sell0need0;");
        }
        return s.toString();
    }
}
