/** Promises 19 to 26: states, what one more would spare, trees made smaller, the plan's cost and its gaps. */
final class SentencesOfStates extends Sentences {
    private static final int ALL_STOCKS = (1 << 21) - 1;
    /** Fork 2, two away, needs 2 that must be there. */
    private static final String FAR_NEED = fan("cap 9;" + ROOT, 100) + "fork under 1 chance 50 price 0 most 0 sell 0 need 2;"
        + "fork under 1 chance 50 " + BARE;

    private SentencesOfStates() {
    }

    static void tell() {
        reach();
        dead();
        worth();
        unit();
        joined();
        costTo();
        take();
        gap();
    }

    private static void reach() {
        test(19, "Stocks (bits 0 .. 20) with which one can come to a FORK, wide or not (1, 0), by STEPS that are lawful from NOW on.", () -> {
            LoftTree x = Tape.of(HAY);
            due("reach(0, 0): where one is", x.reach(0, 0), 1 << 2);
            due("reach(0, 1)", x.reach(0, 1), 0);
            due("reach(1, 0): 0 .. 5", x.reach(1, 0), 63);
            due("reach(1, 1): 0 .. 5", x.reach(1, 1), 63);
            goBy(x, 4, 1, 0);
            due("reach(1, 0), wide", x.reach(1, 0), 0);
            due("reach(1, 1), wide", x.reach(1, 1), 1 << 5);
            LoftTree all = Tape.of(fan("start 10;cap 20;wide 20 cost 1;root price 0 most 20 sell 0 need 0;", 100));
            due("reach(1, 0) of all", all.reach(1, 0), ALL_STOCKS);
            due("reach(1, 1) of all", all.reach(1, 1), ALL_STOCKS);
            LoftTree full = Tape.of(fan("start 20;cap 20;" + ROOT, 100));
            due("reach(0, 0) of 20", full.reach(0, 0), 1 << 20);
            due("reach(1, 1): widened to nothing", full.reach(1, 1), 1);
            due("reach(1, 0) of one that is stuck", Tape.of(STUCK).reach(1, 0), 0);
            due("reach(2, 0) of a lost one: the steps to it are lawful", Tape.of(LOST).reach(2, 0), 15);
            LoftTree far = Tape.of("start 2;cap 1;wide 3 cost 1;" + ROOT + "fork under 0 chance 100 price 0 most 2 sell 0 need 0;"
                + "fork under 1 chance 100 " + BARE);
            due("reach(1, 0)", far.reach(1, 0), 3);
            due("reach(1, 1)", far.reach(1, 1), 7);
            due("reach(2, 0)", far.reach(2, 0), 3);
            due("reach(2, 1): widened at either", far.reach(2, 1), 15);
            far.set(1, 1, 0);
            due("reach(2, 0)", far.reach(2, 0), 3);
            due("reach(2, 1): 2 if it was widened at fork 0", far.reach(2, 1), 7);
            goBy(far, 0, 1, 0);
            due("reach(2, 0) from fork 1 on, wide", far.reach(2, 0), 0);
            due("reach(2, 1) from fork 1 on, wide", far.reach(2, 1), 7);
        });
        test(19, "-2: there is none such from NOW on, another wide.", () -> {
            LoftTree x = Tape.of(HAY);
            for (int f : new int[] {-1, 3, 40, MIN, MAX}) {
                due("reach(" + f + ", 0)", x.reach(f, 0), -2);
            }
            for (int wide : NO_FLAGS) {
                due("reach(1, " + wide + ")", x.reach(1, wide), -2);
            }
            goBy(x, 2, 0, 0);
            due("reach(0, 0) behind us", x.reach(0, 0), -2);
            due("reach(2, 0) beside us", x.reach(2, 0), -2);
            due("reach(1, 0)", x.reach(1, 0), 1 << 3);
        });
    }

    private static void dead() {
        test(20, "Stocks (bits 0 .. 20) with which nothing is lawful from a FORK on (somewhere behind).", () -> {
            LoftTree x = Tape.of(FAR_NEED);
            int[] narrow = {3, 3, 3, 0};
            int[] wide = {ALL_STOCKS, ALL_STOCKS, 3, 0};
            for (int f = 0; f <= 3; f++) {
                due("dead(" + f + ", 0)", x.dead(f, 0), narrow[f]);
                due("dead(" + f + ", 1): nothing can be in it", x.dead(f, 1), wide[f]);
            }
            x.set(2, 3, 20);
            due("dead(2, 0): all but 20", x.dead(2, 0), ALL_STOCKS >> 1);
            due("dead(1, 0): 9 can be left", x.dead(1, 0), ALL_STOCKS);
            x.set(2, 1, 20);
            due("dead(2, 0): all can be bought", x.dead(2, 0), 0);
            due("dead(0, 0) of a new one", new LoftTree().dead(0, 0), 0);
            due("dead(2, 0) of a lost one", Tape.of(LOST).dead(2, 0), 127);
            due("dead(0, 0) of a lost one", Tape.of(LOST).dead(0, 0), ALL_STOCKS);
        });
        test(20, "-2 likewise.", () -> {
            LoftTree x = Tape.of(HAY);
            for (int f : new int[] {-1, 3, 40, MIN, MAX}) {
                due("dead(" + f + ", 0)", x.dead(f, 0), -2);
            }
            for (int wide : NO_FLAGS) {
                due("dead(1, " + wide + ")", x.dead(1, wide), -2);
            }
            goBy(x, 2, 0, 0);
            due("dead(0, 0) behind us", x.dead(0, 0), -2);
            due("dead(2, 0) beside us", x.dead(2, 0), -2);
            due("dead(1, 0)", x.dead(1, 0), 0);
        });
    }

    private static void worth() {
        test(21, "The least mean from a FORK on in a STATE, in its parts.", () -> {
            LoftTree x = Tape.of(HAY);
            int[] second = {24, 16, 8, 0, -1, -2};
            for (int s = 0; s < second.length; s++) {
                due("worth(2, " + s + ", 0)", x.worth(2, s, 0), second[s] * E6);
                due("worth(2, " + s + ", 1)", x.worth(2, s, 1), second[s] * E6);
            }
            due("worth(2, 20, 0): 17 sold", x.worth(2, 20, 0), -17 * E6);
            due("worth(0, 2, 0)", x.worth(0, 2, 0), 9 * E8);
            LoftTree chain = Tape.of(CHAIN);
            long[] least = {6 * E8, 4 * E6, 3 * E4, 3 * E2, 1};
            int[] stocks = {3, 2, 1, 0, 0};
            for (int f = 0; f <= 4; f++) {
                due("worth(" + f + ", " + stocks[f] + ", 0) of a chain", chain.worth(f, stocks[f], 0), least[f]);
            }
            LoftTree held = Tape.of("cap 5;wide 5 cost 1;hold 1;root price 2 most 5 sell 0 need 0;fork under 0 chance 100 price 0 most 0 sell 0 need 3;");
            for (int wide = 0; wide <= 1; wide++) {
                due("worth(0, 0, " + wide + "): 3 bought and held", held.worth(0, 0, wide), 9 * E8);
                due("worth(0, 3, " + wide + "): 3 held", held.worth(0, 3, wide), 3 * E8);
                due("worth(0, 20, " + wide + "): 17 given away", held.worth(0, 20, wide), 3 * E8);
            }
        });
        test(21, "NEVER: nothing is lawful;", () -> {
            LoftTree x = Tape.of(FAR_NEED);
            for (int f = 0; f <= 2; f++) {
                due("worth(" + f + ", 1, 0)", x.worth(f, 1, 0), NEVER);
                due("worth(" + f + ", 2, 0)", x.worth(f, 2, 0), 0);
            }
            due("worth(1, 2, 1): nothing can be in it", x.worth(1, 2, 1), NEVER);
        });
        test(21, "there is none such from NOW on (stock 0 .. 20, wide 0, 1).", () -> {
            LoftTree x = Tape.of(HAY);
            for (int f : new int[] {-1, 3, 40, MIN, MAX}) {
                due("worth(" + f + ", 0, 0)", x.worth(f, 0, 0), NEVER);
            }
            for (int stock : new int[] {-1, 21, 22, MIN, MAX}) {
                due("worth(1, " + stock + ", 0)", x.worth(1, stock, 0), NEVER);
                due("worth(0, " + stock + ", 1)", x.worth(0, stock, 1), NEVER);
            }
            for (int wide : NO_FLAGS) {
                due("worth(1, 0, " + wide + ")", x.worth(1, 0, wide), NEVER);
            }
            due("worth(1, 20, 1): 17 sold", x.worth(1, 20, 1), -17 * E6);
            goBy(x, 2, 0, 0);
            due("worth(0, 2, 0) behind us", x.worth(0, 2, 0), NEVER);
            due("worth(2, 2, 0) beside us", x.worth(2, 2, 0), NEVER);
            due("worth(1, 2, 0)", x.worth(1, 2, 0), 2 * E6);
        });
    }

    private static void unit() {
        // below 0 it never is: one more can be sold at once, for 0 at least
        test(22, "What one more in the stock would spare at a FORK, as the PLAN comes to it (the least means, in its parts; below 0: it costs).", () -> {
            LoftTree x = Tape.of(HAY);
            due("unit(0): 9 less 6", x.unit(0), 3 * E8);
            due("unit(1), with 1: 4 less 2", x.unit(1), 2 * E6);
            due("unit(2), with 1: 16 less 8, its own step unlawful", x.unit(2), 8 * E6);
            x.plan(0, 4, 0);
            due("unit(2), with 5: one more is sold", x.unit(2), E6);
            x.go(1);
            due("unit(2) from fork 2 on", x.unit(2), E6);
            LoftTree chain = Tape.of(CHAIN);
            chain.take(0);
            // one more at 0 and held to 3: 3 held, 2 spared
            due("unit(0) of a chain", chain.unit(0), 0);
            due("unit(3) of a chain: 3 less 1", chain.unit(3), 2 * E2);
            due("unit(4) of a chain: 1 less 0", chain.unit(4), 1);
        });
        test(22, "NEVER: it does not come there lawfully;", () -> {
            LoftTree x = Tape.of(HAY);
            x.plan(0, -2, 0);
            due("unit(0): it is there", x.unit(0), 3 * E8);
            due("unit(1): unlawful at fork 0", x.unit(1), NEVER);
            x.plan(0, 1, 0);
            due("unit(1)", x.unit(1), 2 * E6);
            for (int f : new int[] {-1, 3, 40, MIN, MAX}) {
                due("unit(" + f + ")", x.unit(f), NEVER);
            }
            x.go(1);
            due("unit(0) behind us", x.unit(0), NEVER);
            due("unit(1) beside us", x.unit(1), NEVER);
        });
        test(22, "either is NEVER;", () -> {
            LoftTree x = Tape.of("start 1;cap 20;root price 1 most 0 sell 0 need 2;");
            due("unit(0): with 1 nothing is lawful, with 2 it is", x.unit(0), NEVER);
            due("worth(0, 2, 0)", x.worth(0, 2, 0), 0);
            x.set(0, 3, 1);
            due("unit(0)", x.unit(0), 0);
            x.set(0, 3, 3);
            due("unit(0): neither is", x.unit(0), NEVER);
        });
        test(22, "the stock is 20.", () -> {
            String does = "root price 1 most 0 sell 1 need 0;";
            due("unit(0) of 20", Tape.of("start 20;cap 20;" + does).unit(0), NEVER);
            due("unit(0) of 19", Tape.of("start 19;cap 20;" + does).unit(0), E8);
            LoftTree x = Tape.of(fan("cap 20;root price 1 most 20 sell 0 need 0;", 100));
            x.plan(0, 20, 0);
            due("unit(1) of 20", x.unit(1), NEVER);
            x.plan(0, 19, 0);
            due("unit(1) of 19", x.unit(1), 0);
        });
    }

    private static void joined() {
        test(23, "How many FORKS there would be, if at each FORK, the furthest first, those under it that are alike were one", () -> {
            due("joined() of a new one", new LoftTree().joined(), 1);
            due("joined() of three unlike", Tape.of(HAY).joined(), 3);
            due("joined() of five alike", Tape.of(fan(ROOT, 20, 20, 20, 20, 20)).joined(), 2);
            LoftTree x = Tape.of(fan(ROOT, 20, 20, 20, 20, 20));
            x.set(3, 0, 1);
            due("joined() of four alike", x.joined(), 3);
            LoftTree last = Tape.of(fan(ROOT, 20, 30, 50));
            last.set(1, 0, 1);
            due("joined() of the last two alike", last.joined(), 3);
            due("joined() of 40", Tape.of(forty()).joined(), 9);
            // only when the halves under 1 are one, 1 and 2 are alike
            String halves = "fork under 1 chance 50 " + BARE + "fork under 1 chance 50 " + BARE;
            LoftTree y = Tape.of(fan(ROOT, 30, 70) + halves + "fork under 2 chance 100 " + BARE);
            due("joined(), the furthest first", y.joined(), 3);
            due("fork(1, 7): nothing is joined in truth", y.fork(1, 7), 2);
            due("count(0): nothing is joined in truth", y.count(0), 6);
            y.set(1, 0, 1);
            due("joined(): alike, but not under one", y.joined(), 5);
            y.go(0);
            due("joined(): all, not from NOW on alone", y.joined(), 5);
            due("joined() of a chain", Tape.of(CHAIN).joined(), 5);
        });
        test(23, "(the first),", () -> {
            String odd = "price 1 most 0 sell 0 need 0;";
            // under 1 it is then one of 70 and the odd one of 30, as under 2
            LoftTree x = Tape.of(fan(ROOT, 50, 50) + "fork under 1 chance 30 " + BARE + "fork under 1 chance 30 " + odd
                + "fork under 1 chance 40 " + BARE + "fork under 2 chance 70 " + BARE + "fork under 2 chance 30 " + odd);
            due("joined()", x.joined(), 4);
            LoftTree y = Tape.of(fan(ROOT, 50, 50) + "fork under 1 chance 30 " + BARE + "fork under 1 chance 30 " + odd
                + "fork under 1 chance 40 " + BARE + "fork under 2 chance 30 " + odd + "fork under 2 chance 70 " + BARE);
            due("joined(), the odd one first", y.joined(), 7);
        });
        test(23, "of their chances together.", () -> {
            String halves = "fork under 1 chance 40 " + BARE + "fork under 1 chance 60 " + BARE;
            String odd = "price 1 most 0 sell 0 need 0;";
            LoftTree x = Tape.of(fan(ROOT, 30, 70) + "fork under 1 chance 20 " + BARE + "fork under 1 chance 20 " + BARE
                + "fork under 1 chance 60 " + odd + "fork under 2 chance 40 " + BARE + "fork under 2 chance 60 " + odd);
            due("joined(): 20 and 20 are 40", x.joined(), 4);
            x.move(2, 0, 1, 1);
            due("joined(): not 39", x.joined(), 7);
            LoftTree last = Tape.of(fan(ROOT, 30, 70) + "fork under 1 chance 20 " + odd + "fork under 1 chance 30 " + BARE
                + "fork under 1 chance 50 " + BARE + "fork under 2 chance 20 " + odd + "fork under 2 chance 80 " + BARE);
            due("joined(): 30 and 50 are 80", last.joined(), 4);
            due("joined(): 40 and 60 are all", Tape.of(fan(ROOT, 30, 70) + halves + "fork under 2 chance 100 " + BARE).joined(), 3);
        });
    }

    private static void costTo() {
        test(24, "What the PLAN costs from NOW on to an END.", () -> {
            LoftTree x = hayPlanned();
            due("costTo(1)", x.costTo(1), 7);
            due("costTo(2)", x.costTo(2), 20);
            x.go(1);
            due("costTo(2) from itself on", x.costTo(2), 15);
            LoftTree chain = Tape.of(CHAIN);
            chain.take(0);
            due("costTo(4) of a chain", chain.costTo(4), 6);
            due("costTo(0) of what is left", Tape.of("start 20;cap 20;left 99;" + ROOT).costTo(0), -1980);
        });
        test(24, "NOTHING: f is none from NOW on,", () -> {
            LoftTree x = hayPlanned();
            due("costTo(0): no end", x.costTo(0), NOTHING);
            for (int f : new int[] {-1, 3, 40, MIN, MAX}) {
                due("costTo(" + f + ")", x.costTo(f), NOTHING);
            }
            x.go(1);
            due("costTo(1) beside us", x.costTo(1), NOTHING);
            LoftTree chain = Tape.of(CHAIN);
            chain.take(0);
            due("costTo(3): no end", chain.costTo(3), NOTHING);
        });
        test(24, "it is not lawful on the way.", () -> {
            LoftTree x = hayPlanned();
            x.plan(1, 0, 0);
            due("costTo(1): unlawful at it", x.costTo(1), NOTHING);
            due("costTo(2): lawful on that way", x.costTo(2), 20);
            x.plan(0, -2, 0);
            due("costTo(2): unlawful at fork 0", x.costTo(2), NOTHING);
        });
    }

    private static void take() {
        test(25, "At each FORK from NOW on, in the STATE in which it is come to so, "
            + "the PLAN becomes the first STEP by which the COUNT of what lies from there on is least", () -> {
            LoftTree x = Tape.of(HAY);
            int[][] steps = {{2, 0, 0}, {2, 0, 0}, {1, 1, 1}};
            for (int count = 0; count <= 2; count++) {
                x.take(count);
                for (int f = 0; f <= 2; f++) {
                    due("planned(" + f + ", 0) by " + count, x.planned(f, 0), steps[count][f]);
                    due("planned(" + f + ", 1) by " + count, x.planned(f, 1), 0);
                }
                due("cost(" + count + ")", x.cost(count), x.best(count));
            }
            goBy(x, 4, 0, 1);
            x.plan(1, 3, 1);
            x.take(0);
            due("planned(2, 0) with 5: of -2, -1, 0 the first", x.planned(2, 0), -2);
            due("planned(0, 0) behind us stays", x.planned(0, 0), 4);
            due("planned(1, 0) beside us stays", x.planned(1, 0), 3);
            // at 1 the worst is come to by 4, at 2 by 1: each is the least from there on
            LoftTree y = Tape.of(fan("cap 9;root price 0 most 0 sell 0 need 0;", 50, 50));
            y.set(1, 1, 3);
            y.set(1, 3, 1);
            y.set(1, 0, 4);
            y.set(2, 1, 3);
            y.set(2, 3, 1);
            y.set(2, 0, 1);
            LoftTree wide = Tape.of(HAY);
            goBy(wide, 4, 1, 0);
            wide.plan(1, 1, 1);
            due("take(0) when wide", wide.take(0), 1);
            due("planned(1, 0) when wide", wide.planned(1, 0), -2);
            due("planned(1, 1) when wide", wide.planned(1, 1), 0);
            LoftTree far = Tape.of(FAR_END);
            far.take(0);
            for (int f = 0; f <= 4; f++) {
                due("planned(" + f + ", 0) of what is bought far away", far.planned(f, 0), f == 4 ? 9 : 0);
                due("planned(" + f + ", 1) of what is widened far away", far.planned(f, 1), f == 4 ? 1 : 0);
            }
            due("take(1)", y.take(1), 2);
            due("planned(2, 0): not only as good as the worst", y.planned(2, 0), 1);
        });
        test(25, "(of 2: with the least costs to ENDS from NOW):", () -> {
            LoftTree x = Tape.of(RUE);
            x.take(2);
            int[] steps = {2, 1, -3, 1};
            for (int f = 0; f <= 3; f++) {
                due("planned(" + f + ", 0)", x.planned(f, 0), steps[f]);
            }
            due("cost(2)", x.cost(2), 7);
            x.go(0);
            x.take(2);
            due("planned(1, 0) from fork 1 on", x.planned(1, 0), 2);
        });
        test(25, "at how many it changed.", () -> {
            LoftTree x = Tape.of(HAY);
            due("take(0)", x.take(0), 1);
            due("take(0) again", x.take(0), 0);
            due("take(1): the same plan", x.take(1), 0);
            due("take(2)", x.take(2), 3);
            x.plan(1, 1, 1);
            due("take(2): one was widened", x.take(2), 1);
            due("take(2) of RUE", Tape.of(RUE).take(2), 4);
            due("take(0) of a new one", new LoftTree().take(0), 0);
        });
        test(25, "-2: another COUNT;", () -> {
            LoftTree x = hayPlanned();
            for (int count : NO_COUNTS) {
                due("take(" + count + ")", x.take(count), -2);
                due("take(" + count + ") of a lost one", Tape.of(LOST).take(count), -2);
            }
            due("cost(1) stays", x.cost(1), 20);
        });
        test(25, "NONE: nothing is lawful.", () -> {
            LoftTree x = Tape.of(LOST);
            x.plan(0, 2, 0);
            x.plan(1, 1, 0);
            for (int count = 0; count <= 2; count++) {
                due("take(" + count + ") of a lost one", x.take(count), NONE);
                due("planned(0, 0) stays", x.planned(0, 0), 2);
                due("planned(1, 0) stays", x.planned(1, 0), 1);
                due("take(" + count + ") of one that is stuck", Tape.of(STUCK).take(count), NONE);
            }
        });
    }

    private static void gap() {
        test(26, "GAP (IV) of the PLAN at a FORK.", () -> {
            LoftTree x = hayPlanned();
            due("gap(0)", x.gap(0), E8);
            due("gap(1)", x.gap(1), 0);
            due("gap(2)", x.gap(2), 7 * E6);
            x.plan(0, 2, 0);
            due("gap(0) of the best", x.gap(0), 0);
            x.plan(0, 2, 1);
            due("gap(0), widened", x.gap(0), 7 * E8);
        });
        test(26, "NEVER: there is none such from NOW on,", () -> {
            LoftTree x = hayPlanned();
            for (int f : new int[] {-1, 3, 40, MIN, MAX}) {
                due("gap(" + f + ")", x.gap(f), NEVER);
            }
            x.go(0);
            due("gap(0) behind us", x.gap(0), NEVER);
            due("gap(2) beside us", x.gap(2), NEVER);
            due("gap(1)", x.gap(1), 0);
        });
        test(26, "the PLAN is not lawful there or nothing is.", () -> {
            LoftTree x = hayPlanned();
            x.plan(2, 0, 0);
            due("gap(2): its step is not lawful", x.gap(2), NEVER);
            due("gap(0): what lies behind is best", x.gap(0), E8);
            x.plan(0, -2, 0);
            due("gap(0): its step is not lawful", x.gap(0), NEVER);
            due("gap(1): not come to", x.gap(1), NEVER);
            LoftTree lost = Tape.of(LOST);
            due("gap(0): lawful, but nothing is behind", lost.gap(0), NEVER);
            lost.plan(0, 3, 0);
            lost.plan(2, 2, 0);
            due("gap(1): lawful from there on", lost.gap(1), 0);
            due("gap(2): nothing is lawful", lost.gap(2), NEVER);
            LoftTree three = Tape.of(THREE);
            three.plan(0, 2, 0);
            due("gap(0): something is lawful, but not behind this step", three.gap(0), NEVER);
            three.plan(0, 4, 0);
            due("gap(0)", three.gap(0), E8);
        });
    }
}
