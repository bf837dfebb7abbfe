/** Promises 27 to 34: what knowing, waiting and widening late are worth, ruin and the worst part. */
final class SentencesOfWorth extends Sentences {
    /** One in 16 comes to fork 7, where 5 are left for 9 each if the loft is widened for 2. The way: 0, 1, 3, 5, 7. */
    private static final String LATE = "wide 5 cost 2;left 9;" + fan(ROOT, 50, 50) + "fork under 1 chance 50 " + BARE
        + "fork under 1 chance 50 " + BARE + "fork under 3 chance 50 " + BARE + "fork under 3 chance 50 " + BARE
        + "fork under 5 chance 50 price 0 most 5 sell 0 need 0;fork under 5 chance 50 " + BARE;
    /** Two are needed four away; they cost 1, 2, 3, 4, 5 on the way there. */
    private static final String RISING = "cap 9;root price 1 most 9 sell 0 need 0;fork under 0 chance 100 price 2 most 9 sell 0 need 0;"
        + "fork under 1 chance 100 price 3 most 9 sell 0 need 0;fork under 2 chance 100 price 4 most 9 sell 0 need 0;"
        + "fork under 3 chance 100 price 5 most 9 sell 0 need 2;";
    /** 8 are paid for 2, then one is sold for 9. */
    private static final String DIP = "cap 5;root price 4 most 2 sell 0 need 0;fork under 0 chance 100 price 0 most 0 sell 9 need 1;";

    private SentencesOfWorth() {
    }

    static void tell() {
        know();
        sooner();
        middle();
        late();
        coin();
        ruin();
        tail();
        lose();
    }

    private static void know() {
        test(27, "What knowing all would save (IV).", () -> {
            LoftTree x = Tape.of(HAY);
            due("know()", x.know(), 2 * E8);
            goBy(x, 1, 0, 0);
            due("know() at an end", x.know(), 0);
            due("know() of a chain", Tape.of(CHAIN).know(), 0);
            due("know() of a new one", new LoftTree().know(), 0);
            LoftTree three = Tape.of(THREE);
            three.move(0, 1, 0, 40);
            due("know(), fork 2 having no chance: 3 less 0", three.know(), 3 * E8);
            LoftTree late = Tape.of(LATE_FORK);
            goBy(late, 0, 0, 0);
            due("know() from fork 1 on: 10 less 5", late.know(), 5 * E6);
            due("know() of fork 0 alone", Tape.of("start 20;cap 20;left 99;" + ROOT).know(), 0);
        });
        test(27, "NEVER: nothing is lawful.", () -> {
            due("know() of a lost one", Tape.of(LOST).know(), NEVER);
            due("know() of one that is stuck", Tape.of(STUCK).know(), NEVER);
        });
    }

    private static void sooner() {
        test(28, "What knowing one FORK sooner would save (IV).", () -> {
            LoftTree x = Tape.of(HAY);
            due("sooner(0)", x.sooner(0), 2 * E8);
            due("sooner(1) at an end", x.sooner(1), 0);
            due("sooner(2) at an end", x.sooner(2), 0);
            LoftTree late = Tape.of(LATE_FORK);
            due("sooner(1)", late.sooner(1), E8);
            due("sooner(0)", late.sooner(0), 0);
            due("best(0) stays", late.best(0), 6 * E8);
            // 2 at 0; known at 1, nothing for fork 2 and 6 for fork 3
            due("sooner(1): 8 less 2 and 6 / 2", Tape.of(RUE).sooner(1), 3 * E8);
            due("sooner(0) of a new one", new LoftTree().sooner(0), 0);
            // the same a year later, so that what is known two and three away counts for fork 0
            LoftTree far = Tape.of("cap 9;hold 1;" + ROOT + "fork under 0 chance 100 price 1 most 9 sell 0 need 0;"
                + "fork under 1 chance 100 price 4 most 9 sell 0 need 0;fork under 2 chance 50 " + BARE
                + "fork under 2 chance 50 price 0 most 0 sell 0 need 2;");
            due("sooner(2), two away", far.sooner(2), E8);
            due("sooner(1)", far.sooner(1), 0);
            due("sooner(4), an end", far.sooner(4), 0);
            far.go(0);
            due("sooner(2) from fork 1 on", far.sooner(2), E6);
            // five under 0 that want nothing; what is under fork 1 costs 9
            LoftTree five = Tape.of(fan("cap 9;root price 0 most 0 sell 0 need 0;", 20, 20, 20, 20, 20) + "fork under 1 chance 100 price 9 most 1 sell 0 need 1;");
            due("best(0)", five.best(0), 9 * E8 / 5);
            due("sooner(0) with five under it", five.sooner(0), 0);
        });
        test(28, "NEVER likewise, or there is no such FORK from NOW on.", () -> {
            due("sooner(0) of a lost one", Tape.of(LOST).sooner(0), NEVER);
            due("sooner(1) of one that is stuck", Tape.of(STUCK).sooner(1), NEVER);
            LoftTree x = Tape.of(HAY);
            for (int f : new int[] {-1, 3, 40, MIN, MAX}) {
                due("sooner(" + f + ")", x.sooner(f), NEVER);
            }
            goBy(x, 2, 0, 0);
            due("sooner(0) behind us", x.sooner(0), NEVER);
            due("sooner(2) beside us", x.sooner(2), NEVER);
            due("sooner(1)", x.sooner(1), 0);
        });
    }

    private static void middle() {
        test(29, "How much more the STEP for the MIDDLE costs (IV).", () -> {
            due("middle()", Tape.of(HAY).middle(), 5 * E8);
            due("middle() of a chain", Tape.of(CHAIN).middle(), 0);
            due("middle(), four away", Tape.of(RISING).middle(), 0);
            due("middle() of a new one", new LoftTree().middle(), 0);
            LoftTree x = Tape.of(LATE_FORK);
            due("middle()", x.middle(), 4 * E8);
            goBy(x, 0, 0, 0);
            x.set(2, 1, 9);
            x.set(3, 1, 9);
            x.set(3, 0, 9);
            // at 1 for 4 and 1 held each, or at 3 for 9 of each second time
            due("middle() from fork 1 on", x.middle(), 0);
            x.set(3, 0, 20);
            due("middle() from fork 1 on: 20 less 10", x.middle(), 10 * E6);
            // from fork 2 on, which is not the likelier one: 1 is needed at 3
            LoftTree beside = Tape.of("cap 9;" + ROOT + "fork under 0 chance 60 " + BARE + "fork under 0 chance 40 price 2 most 1 sell 0 need 0;"
                + "fork under 2 chance 100 price 9 most 1 sell 0 need 1;");
            beside.go(1);
            due("best(0) from fork 2 on", beside.best(0), 2 * E6);
            due("middle() from fork 2 on", beside.middle(), 0);
            // of five under 0 the second is likeliest and wants nothing; the one under fork 1 is sure, but not under 0
            LoftTree five = Tape.of(fan("cap 9;root price 1 most 9 sell 0 need 0;", 16, 21, 21, 21, 21) + "fork under 1 chance 100 price 8 most 9 sell 0 need 1;");
            due("best(0)", five.best(0), E8);
            due("middle() of five: 16 times 8 less 100", five.middle(), 28 * E6);
        });
        test(29, "NEVER: nothing is lawful,", () -> {
            due("middle() of a lost one", Tape.of(LOST).middle(), NEVER);
            due("middle() of one that is stuck", Tape.of(STUCK).middle(), NEVER);
            LoftTree x = Tape.of(LOST);
            x.move(0, 1, 0, 30);
            due("middle(): the way to fork 1 is lawful, the other is not", x.middle(), NEVER);
        });
        test(29, "that STEP leads where nothing is.", () -> {
            LoftTree x = Tape.of(THREE);
            due("best(0)", x.best(0), 3 * E8);
            due("middle(): nothing is bought for fork 1", x.middle(), NEVER);
            x.move(0, 0, 1, 11);
            due("middle(), fork 2 the likelier", x.middle(), 0);
        });
    }

    private static void late() {
        test(30, "How much more is the least mean, if one can widen at FORKS up to so far from FORK 0 alone (0 .. 4).", () -> {
            LoftTree x = Tape.of(LATE);
            long sixteenth = E8 / 16;
            due("best(0)", x.best(0), (2 - 45) * sixteenth);
            long[] more = {30, 14, 6, 2, 0};
            for (int far = 0; far <= 4; far++) {
                due("late(" + far + ")", x.late(far), more[far] * sixteenth);
            }
            x.go(0);
            x.go(0);
            // two away one in 4 comes to fork 7; nearer to fork 0 one can widen no more
            long[] then = {43, 43, 6, 2, 0};
            for (int far = 0; far <= 4; far++) {
                due("late(" + far + ") from fork 3 on", x.late(far), then[far] * E4 / 4);
            }
            LoftTree wide = Tape.of(LATE);
            goBy(wide, 0, 1, 0);
            due("late(0), wide already", wide.late(0), 0);
        });
        test(30, "NEVER: nothing is lawful then;", () -> {
            due("late(4) of a lost one", Tape.of(LOST).late(4), NEVER);
            due("late(0) of one that is stuck", Tape.of(STUCK).late(0), NEVER);
            LoftTree x = Tape.of("cap 1;wide 5 cost 3;root price 2 most 9 sell 0 need 0;fork under 0 chance 100 price 9 most 9 sell 0 need 0;"
                + "fork under 1 chance 100 price 9 most 0 sell 0 need 3;");
            due("late(0)", x.late(0), 0);
            goBy(x, 0, 0, 0);
            due("late(0): it must be widened at fork 1", x.late(0), NEVER);
            due("late(1)", x.late(1), 0);
            due("best(0)", x.best(0), 30 * E6);
        });
        test(30, "another number.", () -> {
            for (int far : new int[] {-1, 5, 6, MIN, MAX}) {
                due("late(" + far + ")", Tape.of(HAY).late(far), NEVER);
            }
        });
    }

    private static void coin() {
        test(31, "The least coin NOW with which one can go on and have never less than 0 (IV).", () -> {
            LoftTree x = Tape.of(DIP);
            due("coin(): 4 for the one that is needed", x.coin(), 4);
            goBy(x, 2, 0, 0);
            due("coin() at fork 1: 9 come in", x.coin(), 0);
            due("now(3)", x.now(3), 8);
            due("coin() of a chain", Tape.of(CHAIN).coin(), 6);
            due("coin() of a new one", new LoftTree().coin(), 0);
            due("coin() of what is left", Tape.of("cap 5;left 9;root price 0 most 5 sell 0 need 0;").coin(), 0);
            LoftTree later = Tape.of("cap 5;left 9;root price 4 most 1 sell 0 need 1;fork under 0 chance 100 price 0 most 5 sell 0 need 0;");
            due("best(1): 4 less 45", later.best(1), -41);
            due("coin(): 4 ahead of what is left", later.coin(), 4);
            // the mean would have it otherwise: nothing at 0 is 1 in 100 times 99
            LoftTree y = Tape.of(fan("cap 9;root price 2 most 1 sell 0 need 0;", 99) + "fork under 0 chance 1 price 99 most 1 sell 0 need 1;");
            due("step(0, 0)", y.step(0, 0), 0);
            due("coin()", y.coin(), 2);
        });
        test(31, "NEVER: nothing is lawful.", () -> {
            due("coin() of a lost one", Tape.of(LOST).coin(), NEVER);
            due("coin() of one that is stuck", Tape.of(STUCK).coin(), NEVER);
        });
    }

    private static void ruin() {
        test(32, "In how many of 10^8 (NOW being sure) the PLAN has less than 0 somewhere, beginning with so much coin (0 .. 99,999).", () -> {
            LoftTree x = hayPlanned();
            int[][] coins = {{0, 2}, {4, 2}, {6, 2}, {7, 1}, {19, 1}, {20, 0}, {21, 0}, {99999, 0}};
            for (int[] c : coins) {
                due("ruin(" + c[0] + ")", x.ruin(c[0]), c[1] * E8 / 2);
            }
            x.go(1);
            due("ruin(14) from fork 2 on", x.ruin(14), E8);
            due("ruin(15) from fork 2 on", x.ruin(15), 0);
            LoftTree dip = Tape.of(DIP);
            dip.plan(0, 2, 0);
            dip.plan(1, -1, 0);
            due("cost(1)", dip.cost(1), -1);
            due("ruin(7): on the way alone", dip.ruin(7), E8);
            due("ruin(8): just 0", dip.ruin(8), 0);
            LoftTree needle = Tape.of(NEEDLE);
            needle.take(0);
            due("ruin(0) of a needle", needle.ruin(0), 1);
            due("ruin(1) of a needle", needle.ruin(1), 0);
            needle.go(0);
            due("ruin(0) of a needle from fork 1 on", needle.ruin(0), 100);
            due("ruin(0) of a new one", new LoftTree().ruin(0), 0);
            LoftTree one = Tape.of("start 20;cap 20;hold 3;" + ROOT);
            due("ruin(59) of fork 0 alone", one.ruin(59), E8);
            due("ruin(60) of fork 0 alone", one.ruin(60), 0);
        });
        test(32, "NEVER: it is not lawful; another coin.", () -> {
            LoftTree x = hayPlanned();
            for (int coin : new int[] {-1, 100000, 100001, MIN, MAX}) {
                due("ruin(" + coin + ")", x.ruin(coin), NEVER);
            }
            x.plan(2, 0, 0);
            due("ruin(0), unlawful at one end", x.ruin(0), NEVER);
            due("ruin(99999), unlawful at one end", x.ruin(99999), NEVER);
        });
    }

    private static void tail() {
        test(33, "The mean of the worst n hundredths (1 .. 100) of the PLAN, times n (IV).", () -> {
            LoftTree x = hayPlanned();
            due("tail(1)", x.tail(1), 20 * E6);
            due("tail(50)", x.tail(50), 50 * 20 * E6);
            due("tail(60)", x.tail(60), (50 * 20 + 10 * 7) * E6);
            due("tail(99)", x.tail(99), (50 * 20 + 49 * 7) * E6);
            due("tail(100)", x.tail(100), x.cost(0));
            x.move(0, 1, 0, 50);
            due("tail(100), the dearer having no chance", x.tail(100), 100 * 7 * E6);
            LoftTree gain = Tape.of("start 20;cap 20;left 99;" + ROOT);
            due("tail(100) of what is left", gain.tail(100), -1980 * E8);
            due("tail(1) of what is left", gain.tail(1), -1980 * E6);
        });
        test(33, "NEVER: it is not lawful; another n.", () -> {
            LoftTree x = hayPlanned();
            for (int n : new int[] {0, -1, 101, 102, MIN, MAX}) {
                due("tail(" + n + ")", x.tail(n), NEVER);
            }
            x.plan(1, 0, 0);
            due("tail(1), unlawful at one end", x.tail(1), NEVER);
            due("tail(100), unlawful at one end", x.tail(100), NEVER);
        });
    }

    private static void lose() {
        test(34, "How much more the first STEP costs that is best if FORKS up to so far from NOW alone are looked at (1 .. 4; IV).", () -> {
            LoftTree x = Tape.of(RISING);
            long[] more = {2 * E8, 2 * E8, 2 * E8, 0};
            for (int far = 1; far <= 4; far++) {
                due("lose(" + far + ")", x.lose(far), more[far - 1]);
            }
            x.go(0);
            long[] then = {2 * E6, 2 * E6, 0, 0};
            for (int far = 1; far <= 4; far++) {
                due("lose(" + far + ") from fork 1 on", x.lose(far), then[far - 1]);
            }
            x.go(0);
            x.go(0);
            due("lose(1) from fork 3 on", x.lose(1), 0);
            x.go(0);
            due("lose(1) at an end", x.lose(1), 0);
            LoftTree late = Tape.of(LATE);
            late.late(0);
            due("lose(4) behind late(0)", late.lose(4), 0);
            LoftTree hay = Tape.of(HAY);
            hay.middle();
            due("lose(1) behind middle()", hay.lose(1), 0);
            goBy(hay, 2, 1, 0);
            due("lose(1) when wide", hay.lose(1), 0);
            due("middle() when wide", hay.middle(), 0);
        });
        test(34, "NEVER: nothing is lawful,", () -> {
            for (int far = 1; far <= 4; far++) {
                due("lose(" + far + ") of a lost one", Tape.of(LOST).lose(far), NEVER);
                due("lose(" + far + ") of one that is stuck", Tape.of(STUCK).lose(far), NEVER);
            }
            LoftTree x = Tape.of("cap 9;" + ROOT + "fork under 0 chance 100 " + BARE + "fork under 1 chance 100 price 0 most 0 sell 0 need 1;");
            due("lose(1): to fork 1 alone it is lawful", x.lose(1), NEVER);
        });
        test(34, "or it leads where nothing is;", () -> {
            LoftTree x = Tape.of("cap 5;root price 2 most 9 sell 0 need 0;fork under 0 chance 100 price 9 most 0 sell 0 need 0;"
                + "fork under 1 chance 100 price 9 most 0 sell 0 need 3;");
            due("best(0)", x.best(0), 6 * E8);
            due("lose(1)", x.lose(1), NEVER);
            due("lose(2)", x.lose(2), 0);
        });
        test(34, "another number.", () -> {
            for (int far : new int[] {0, -1, 5, 6, MIN, MAX}) {
                due("lose(" + far + ")", Tape.of(HAY).lose(far), NEVER);
            }
        });
    }
}
