/** Terms II to V: states and steps, counts of plans, what things are worth, runs. */
final class SentencesOfCounts extends Sentences {
    /** 3 are needed at fork 2, and can be bought at fork 1; the loft must be widened for them at 0 or 1. */
    private static final String WIDE_WAY = "cap 1;wide 4 cost 9;" + ROOT + "fork under 0 chance 100 price 2 most 4 sell 0 need 0;"
        + "fork under 1 chance 100 price 0 most 0 sell 0 need 3;";

    private SentencesOfCounts() {
    }

    static void tell() {
        states();
        lawful();
        costs();
        counts();
        best();
        worths();
        looks();
        runs();
    }

    private static void states() {
        test(TERMS, "A STATE: a stock, 0 .. 20, and whether the loft is wide (0 at FORK 0).", () -> {
            LoftTree x = Tape.of(fan("start 20;cap 20;wide 20 cost 0;" + ROOT, 100));
            due("now(1)", x.now(1), 20);
            due("now(2)", x.now(2), 0);
            due("worth(1, 0, 0)", x.worth(1, 0, 0), 0);
            due("worth(1, 20, 1)", x.worth(1, 20, 1), 0);
            due("worth(1, 21, 0)", x.worth(1, 21, 0), NEVER);
            due("worth(1, -1, 0)", x.worth(1, -1, 0), NEVER);
            due("go(0), widened", goBy(x, 0, 1, 0), 1);
            due("now(1)", x.now(1), 20);
            due("now(2)", x.now(2), 1);
            x.again();
            due("now(2) at fork 0", x.now(2), 0);
        });
        test(TERMS, "A STEP at a FORK: x, b: x above 0: so much is bought, below 0: sold; b 1: the loft is widened.", () -> {
            int[][] steps = {{3, 0, 7, 0}, {0, 0, 4, 0}, {-3, 0, 1, 0}, {0, 1, 4, 1}, {2, 1, 6, 1}, {-1, 1, 3, 1}};
            LoftTree x = Tape.of(fan("start 4;cap 9;wide 9 cost 0;root price 1 most 3 sell 1 need 0;", 100));
            for (int[] s : steps) {
                due("go(0) by " + s[0] + ", " + s[1], goBy(x, s[0], s[1], 0), 1);
                due("now(1)", x.now(1), s[2]);
                due("now(2)", x.now(2), s[3]);
                x.again();
            }
        });
        test(TERMS, "That is the stock then.", () -> {
            LoftTree x = Tape.of(fan("start 4;cap 9;root price 1 most 3 sell 1 need 2;", 100));
            x.plan(0, 3, 0);
            due("planned(0, 2): 4 and 3 less 2", x.planned(0, 2), 5);
            x.go(0);
            due("now(1)", x.now(1), 5);
        });
        test(TERMS, "A PLAN: a STEP for each FORK.", () -> {
            LoftTree x = Tape.of(forks(40));
            due("plan(39, 0, 1)", x.plan(39, 0, 1), true);
            due("plan(40, 0, 1)", x.plan(40, 0, 1), false);
            for (int f = 0; f < 40; f++) {
                due("planned(" + f + ", 0)", x.planned(f, 0), 0);
                due("planned(" + f + ", 1)", x.planned(f, 1), f == 39 ? 1 : 0);
            }
            due("planned(40, 0)", x.planned(40, 0), NOTHING);
        });
        test(TERMS, "(NOW: the FORK where one is, with its STATE; \"from NOW on\": NOW and all FORKS under it, and under those.)", () -> {
            LoftTree x = Tape.of(CROSSED);
            for (int f = 0; f <= 4; f++) {
                due("reach(" + f + ", 0)", x.reach(f, 0) > 0, true);
            }
            x.go(0);
            int[] from1 = {-2, 4, -2, -2, 7};
            for (int f = 0; f <= 4; f++) {
                due("reach(" + f + ", 0) from fork 1 on", x.reach(f, 0), from1[f]);
            }
            due("reach(4, 0) of a chain", Tape.of(CHAIN).reach(4, 0), 1023);
        });
    }

    private static void lawful() {
        test(TERMS, "It is lawful, if x is at most \"most\",", () -> {
            LoftTree x = Tape.of(fan("start 1;cap 9;root price 0 most 3 sell 0 need 1;", 100));
            due("plan(0, 3, 0)", x.plan(0, 3, 0), true);
            due("plan(0, 4, 0)", x.plan(0, 4, 0), false);
            x.set(0, 1, 2);
            due("go(0): 3, but most is 2", x.go(0), -5);
            x.set(0, 1, 3);
            due("go(0)", x.go(0), 1);
            x.again();
            due("steps(): 0 .. 3, and 0 if it is widened to nothing", x.steps(), 5);
            due("first(3, 0)", x.first(3, 0), 3);
        });
        test(TERMS, "x and the stock are 0 or more together,", () -> {
            LoftTree x = Tape.of(fan("start 2;cap 5;root price 0 most 0 sell 3 need 0;", 100));
            due("plan(0, -3, 0): with 3 there", x.plan(0, -3, 0), true);
            due("go(0)", x.go(0), -5);
            due("go(0) by -2", goBy(x, -2, 0, 0), 1);
            due("now(1)", x.now(1), 0);
            due("now(3)", x.now(3), -6);
        });
        test(TERMS, "b is 0 or the loft is not wide,", () -> {
            LoftTree x = Tape.of("cap 2;wide 4 cost 1;" + ROOT + "fork under 0 chance 100 " + BARE + "fork under 1 chance 100 " + BARE);
            due("steps(): not wide yet", x.steps(), 2);
            due("go(0), widened", goBy(x, 0, 1, 0), 1);
            due("steps(): wide", x.steps(), 1);
            due("go(0), widened again", goBy(x, 0, 1, 0), -5);
            due("go(0)", goBy(x, 0, 0, 0), 2);
            due("now(2)", x.now(2), 1);
        });
        test(TERMS, "and the stock with x, less need, is 0 .. cap (of a wide one: 0 .. wide).", () -> {
            String text = "start 3;cap 3;wide 5 cost 0;root price 0 most 9 sell 0 need 1;"
                + "fork under 0 chance 100 price 0 most 9 sell 0 need 0;fork under 1 chance 100 " + BARE;
            int[][] steps = {{-3, 0, -5}, {-2, 0, 1}, {1, 0, 1}, {2, 0, -5}, {-3, 1, -5}, {-2, 1, 1}, {3, 1, 1}, {4, 1, -5}};
            for (int[] s : steps) {
                due("go(0) by " + s[0] + ", " + s[1], goBy(Tape.of(text), s[0], s[1], 0), s[2]);
            }
            LoftTree x = Tape.of(text);
            goBy(x, 3, 1, 0);
            due("go(0) with 6, wide already", goBy(x, 1, 0, 0), -5);
            due("go(0) with 5, wide already", goBy(x, 0, 0, 0), 2);
            LoftTree narrow = Tape.of(fan("start 3;cap 3;wide 1 cost 0;" + ROOT, 100));
            due("go(0): 3 in a wide one of 1", goBy(narrow, 0, 1, 0), -5);
            due("go(0): 2 in a wide one of 1", goBy(narrow, -1, 1, 0), -5);
            due("go(0): 1 in a wide one of 1", goBy(narrow, -2, 1, 0), 1);
            LoftTree full = Tape.of(fan("start 20;" + ROOT, 100));
            due("go(0): 20 in a loft of 0", goBy(full, 0, 0, 0), -5);
            due("go(0): all sold", goBy(full, -20, 0, 0), 1);
            LoftTree needy = Tape.of(fan("start 20;root price 0 most 0 sell 0 need 20;", 100));
            due("go(0): all needed", goBy(needy, 0, 0, 0), 1);
        });
        test(TERMS, "STEPS in order: b 0 first, then the least x.", () -> {
            LoftTree x = Tape.of("start 1;cap 2;wide 2 cost 0;root price 1 most 1 sell 1 need 0;");
            due("steps()", x.steps(), 6);
            for (int i = 0; i < 6; i++) {
                due("first(" + i + ", 0)", x.first(i, 0), i % 3 - 1);
                due("first(" + i + ", 1)", x.first(i, 1), i / 3);
            }
        });
    }

    private static void costs() {
        test(TERMS, "It costs: x times price, or x times sell (below 0) if it is sold; cost, if it is widened; "
            + "hold times the stock then; at an END less left times that.", () -> {
            String does = "price 7 most 5 sell 2 need 1;";
            LoftTree x = Tape.of("start 4;cap 9;wide 9 cost 50;hold 3;left 10;root " + does + "fork under 0 chance 100 " + does);
            int[][] steps = {{2, 0, 14 + 15}, {1, 0, 7 + 12}, {0, 0, 9}, {-1, 0, -2 + 6}, {-3, 0, -6}, {0, 1, 50 + 9}, {-3, 1, 50 - 6}};
            for (int[] s : steps) {
                goBy(x, s[0], s[1], 0);
                due("now(3) by " + s[0] + ", " + s[1], x.now(3), s[2]);
                x.again();
            }
            goBy(x, 2, 0, 0);
            int[][] atEnd = {{0, 0, 12 - 40}, {1, 0, 7 + 15 - 50}, {-1, 0, -2 + 9 - 30}, {-4, 0, -8}, {0, 1, 50 + 12 - 40}};
            for (int[] s : atEnd) {
                x.plan(1, s[0], s[1]);
                due("costTo(1) by " + s[0] + ", " + s[1], x.costTo(1), s[2]);
            }
        });
    }

    private static void counts() {
        test(TERMS, "COUNTS of plans from NOW on: 0 the mean: of all ENDS chance (the product of those on the way from NOW) times the cost to it, "
            + "in 10^8 parts, where each FORK is counted with 100 to the 4 less its way from FORK 0: "
            + "a COUNT of NOW d away is in 100^(4 - d) parts.", () -> {
            LoftTree chain = Tape.of(CHAIN);
            chain.take(0);
            long[] least = {6 * E8, 4 * E6, 3 * E4, 3 * E2, 1};
            for (int d = 0; d <= 4; d++) {
                due("best(0) of a chain, " + d + " away", chain.best(0), least[d]);
                due("cost(0) of a chain, " + d + " away", chain.cost(0), least[d]);
                chain.go(0);
            }
            LoftTree needle = Tape.of(NEEDLE);
            needle.take(0);
            for (int d = 0; d <= 4; d++) {
                due("best(0) of a needle, " + d + " away", needle.best(0), 1);
                due("cost(0) of a needle, " + d + " away", needle.cost(0), 1);
                needle.go(0);
            }
            due("cost(0): (7 + 20) / 2", hayPlanned().cost(0), 27 * E8 / 2);
            String dear = "price 99 most 20 sell 99 need 20;";
            StringBuilder great = new StringBuilder("cap 20;hold 99;root " + dear);
            for (int f = 0; f < 4; f++) {
                great.append("fork under ").append(f).append(" chance 100 ").append(dear);
            }
            due("best(0) of the dearest", Tape.of(great.toString()).best(0), 5 * 20 * 99 * E8);
            due("best(0) of what is left", Tape.of("start 20;cap 20;left 99;" + ROOT).best(0), -20 * 99 * E8);
        });
        test(TERMS, "1 the worst: the greatest cost to an END.", () -> {
            LoftTree x = hayPlanned();
            due("cost(1)", x.cost(1), 20);
            due("best(1)", x.best(1), 9);
            x.move(0, 1, 0, 50);
            due("cost(1), an end of no chance", x.cost(1), 20);
            due("best(1) of what is left", Tape.of("start 20;cap 20;left 99;" + ROOT).best(1), -20 * 99);
        });
        test(TERMS, "2 what one rues: the greatest, of all ENDS, of the cost to it less the least cost of any STEPS "
            + "that are lawful on the way from NOW to it alone.", () -> {
            due("cost(2): 20 less 9", hayPlanned().cost(2), 11);
            // to fork 1 alone nothing need be bought, though that is not lawful for fork 2
            due("best(2): 3 less 0", Tape.of(THREE).best(2), 3);
            LoftTree x = Tape.of(RUE);
            due("best(2)", x.best(2), 7);
            goBy(x, 2, 0, 0);
            due("best(2) from fork 1 on", x.best(2), 6);
            due("step(2, 0) from fork 1 on", x.step(2, 0), 2);
            // on the way alone it must be widened too, once
            LoftTree wide = Tape.of(WIDE_WAY);
            due("best(2)", wide.best(2), 0);
            goBy(wide, 0, 1, 0);
            due("best(2) when wide", wide.best(2), 0);
        });
    }

    private static void best() {
        test(TERMS, "What is not lawful everywhere from NOW on does not count.", () -> {
            LoftTree x = Tape.of(THREE);
            due("best(0)", x.best(0), 3 * E8);
            due("best(1)", x.best(1), 3);
            due("steps()", x.steps(), 2);
            x.move(0, 1, 0, 40);
            due("best(0), fork 2 having no chance", x.best(0), 3 * E8);
            LoftTree lost = Tape.of(LOST);
            for (int count = 0; count <= 2; count++) {
                due("best(" + count + ") of a lost one", lost.best(count), NEVER);
            }
            lost.plan(0, 1, 0);
            lost.go(0);
            due("best(0) from fork 1 on", lost.best(0), 0);
        });
        test(TERMS, "BEST: the least; of STEPS as good the first.", () -> {
            LoftTree x = Tape.of(HAY);
            due("best(2)", x.best(2), 4);
            due("ties(2)", x.ties(2), 2);
            due("step(2, 0)", x.step(2, 0), 1);
            LoftTree y = Tape.of("start 3;cap 5;wide 5 cost 0;root price 0 most 2 sell 0 need 0;");
            for (int count = 0; count <= 2; count++) {
                due("ties(" + count + ")", y.ties(count), 12);
                due("step(" + count + ", 0)", y.step(count, 0), -3);
                due("step(" + count + ", 1)", y.step(count, 1), 0);
            }
        });
    }

    private static void worths() {
        test(TERMS, "GAP of the PLAN at a FORK that it comes to: the mean of its STEP there, all best behind it, "
            + "less the least mean there, in parts of that FORK.", () -> {
            LoftTree x = hayPlanned();
            due("gap(0): 10 less 9", x.gap(0), E8);
            due("gap(1)", x.gap(1), 0);
            due("gap(2): 15 less 8", x.gap(2), 7 * E6);
            LoftTree chain = Tape.of(CHAIN);
            chain.take(0);
            due("gap(3) of the best", chain.gap(3), 0);
            chain.plan(4, 2, 0);
            due("gap(4): 2 + 1 less 1", chain.gap(4), 2);
            due("gap(3): what lies behind is best", chain.gap(3), 0);
            chain.plan(3, 2, 0);
            due("gap(3): 4 + 1 less 3", chain.gap(3), 2 * E2);
            chain.plan(0, -3, 0);
            due("gap(3), not come to", chain.gap(3), NEVER);
        });
        test(TERMS, "KNOWING ALL: the least mean less the mean of the least costs to the ENDS (as in III 2).", () -> {
            due("know(): 9 less (5 + 9) / 2", Tape.of(HAY).know(), 2 * E8);
            due("know(): 3 less 40 times 3", Tape.of(THREE).know(), 180 * E6);
            LoftTree x = Tape.of(RUE);
            // the least mean: 2 at 0, none at 1 or all, (2 + 22) / 2 = 12 or (8 + 8) / 2 = 8; the least costs 0 and 8
            due("best(0)", x.best(0), 8 * E8);
            due("know()", x.know(), 4 * E8);
            goBy(x, 2, 0, 0);
            due("know() from fork 1 on: 6 less 3", x.know(), 3 * E6);
            LoftTree wide = Tape.of(WIDE_WAY);
            due("best(0): 9 and 6", wide.best(0), 15 * E8);
            due("know()", wide.know(), 0);
            goBy(wide, 0, 1, 0);
            due("know() when wide", wide.know(), 0);
        });
        test(TERMS, "KNOWING f SOONER: as if at f the STEP were chosen for each FORK under it by itself, all else likewise best: "
            + "the least mean less that; parts of NOW.", () -> {
            LoftTree x = Tape.of(LATE_FORK);
            due("best(0)", x.best(0), 6 * E8);
            due("sooner(0): one alone is under it", x.sooner(0), 0);
            due("sooner(1): 6 less 5", x.sooner(1), E8);
            due("sooner(2): none is under it", x.sooner(2), 0);
            goBy(x, 0, 0, 0);
            due("sooner(1), with none there: 10 less 5", x.sooner(1), 5 * E6);
            due("sooner(0) of HAY", Tape.of(HAY).sooner(0), 2 * E8);
        });
        test(TERMS, "LEAST COIN: of all plans the least of what must be there so that, taking off what each STEP costs, "
            + "never less than 0 is left (0 at least).", () -> {
            due("coin()", Tape.of(HAY).coin(), 9);
            // 4 must be paid before 9 come in
            LoftTree x = Tape.of("cap 5;root price 4 most 2 sell 0 need 0;fork under 0 chance 100 price 0 most 0 sell 9 need 1;");
            due("best(1)", x.best(1), -1);
            due("coin()", x.coin(), 4);
            due("coin() of one that only earns", Tape.of("start 5;cap 5;root price 0 most 0 sell 7 need 0;").coin(), 0);
            // what came in ahead is there later: 14 for 2, then 9 for 1
            LoftTree y = Tape.of("start 2;cap 5;root price 0 most 0 sell 7 need 2;fork under 0 chance 100 price 9 most 5 sell 0 need 1;");
            due("coin()", y.coin(), 9);
            y.set(0, 3, 0);
            due("coin(): 14 came in ahead", y.coin(), 0);
        });
        test(TERMS, "TAIL: ENDS by cost from the greatest on, as much of their chances (in 10^8 parts, NOW being sure) as are n hundredths of all: "
            + "their costs times these parts, together (of the last one so much as is lacking).", () -> {
            LoftTree x = hayPlanned();
            due("tail(49)", x.tail(49), 49 * 20 * E6);
            due("tail(50)", x.tail(50), 50 * 20 * E6);
            due("tail(51)", x.tail(51), 50 * 20 * E6 + 7 * E6);
            due("tail(100)", x.tail(100), 50 * 27 * E6);
            x.go(1);
            due("tail(1) from fork 2 on", x.tail(1), 15 * E6);
            LoftTree needle = Tape.of(NEEDLE);
            needle.take(0);
            due("tail(1) of a needle", needle.tail(1), 1);
            due("tail(100) of a needle", needle.tail(100), 1);
            needle.go(0);
            due("tail(1) of a needle from fork 1 on", needle.tail(1), 100);
        });
    }

    private static void looks() {
        test(TERMS, "MIDDLE: from NOW on always the FORK under it with the greatest chance (the first of several): "
            + "the first STEP of the least cost on that way alone; its mean, all best behind it, less the least mean.", () -> {
            LoftTree x = Tape.of(HAY);
            // to fork 1 alone -1 and 0 cost 5 each; -1 is first, its mean is (5 + 23) / 2
            due("middle(), of two as likely the first", x.middle(), 5 * E8);
            x.move(0, 0, 1, 1);
            due("middle(), the second likelier", x.middle(), 0);
            LoftTree y = Tape.of(LATE_FORK);
            due("middle(), of two as likely the first: 10 less 6", y.middle(), 4 * E8);
            y.move(1, 0, 1, 1);
            due("middle(), the second likelier two away", y.middle(), 0);
            LoftTree three = Tape.of(fan("cap 4;root price 1 most 4 sell 0 need 0;", 30, 40, 30));
            three.set(2, 3, 2);
            due("middle(): the step for fork 2", three.middle(), 0);
            three.move(0, 1, 2, 9);
            three.set(3, 1, 3);
            due("middle(): the step for fork 3 leads nowhere", three.middle(), NEVER);
        });
        test(TERMS, "LOSE: FORKS that far from NOW are taken as ENDS (those nearer stay as they are): "
            + "the first STEP of the least mean then; its mean in truth, all best behind it, less the least mean.", () -> {
            LoftTree x = Tape.of(LATE_FORK);
            due("lose(1): 10 less 6", x.lose(1), 4 * E8);
            due("lose(2)", x.lose(2), 0);
            // what is left counts at fork 1 when it is taken as an end, so that 5 are bought
            LoftTree y = Tape.of("cap 5;left 4;root price 2 most 9 sell 0 need 0;fork under 0 chance 100 price 9 most 0 sell 0 need 0;"
                + "fork under 1 chance 100 price 9 most 0 sell 0 need 5;");
            due("lose(1)", y.lose(1), 0);
            // it does not at fork 1 when fork 2 is taken as an end; fork 3 is one in truth
            LoftTree z = Tape.of("cap 5;left 4;root price 3 most 9 sell 0 need 0;fork under 0 chance 50 price 9 most 0 sell 0 need 0;"
                + "fork under 1 chance 100 price 1 most 9 sell 0 need 0;fork under 0 chance 50 price 9 most 0 sell 0 need 0;");
            // each bought at 0 for 3 is worth 4 at 3, and spares 1 at 2 (5 are bought there anyhow): 2.5
            due("best(0)", z.best(0), -75 * E8 / 10);
            due("lose(1): 5 are bought, for 2.5 more than in truth", z.lose(1), 5 * E8 / 2);
            due("lose(2)", z.lose(2), 0);
        });
        test(TERMS, "ALIKE: price, most, sell, need alike, the same number of FORKS under them, one by one of like chance and alike.", () -> {
            String twins = fan(ROOT, 50, 50);
            LoftTree x = Tape.of(twins);
            due("same(1, 2)", x.same(1, 2), 1);
            for (int what = 0; what <= 3; what++) {
                x.set(1, what, 1);
                due("same(1, 2) of one unlike number, " + what, x.same(1, 2), 0);
                x.set(1, what, 0);
            }
            due("same(1, 2)", x.same(1, 2), 1);
            due("same(0, 1): two under it, none under the other", x.same(0, 1), 0);
            String more = twins + "fork under 1 chance 30 " + BARE + "fork under 1 chance 70 " + BARE;
            LoftTree y = Tape.of(more + "fork under 2 chance 30 " + BARE + "fork under 2 chance 70 " + BARE);
            due("same(1, 2) with two under each", y.same(1, 2), 1);
            due("same(3, 4): their own chances are another matter", y.same(3, 4), 1);
            y.move(2, 0, 1, 1);
            due("same(1, 2) of unlike chances", y.same(1, 2), 0);
            y.move(2, 0, 1, 29);
            y.move(2, 1, 0, 30);
            due("same(1, 2)", y.same(1, 2), 1);
            y.set(6, 0, 1);
            due("same(1, 2), one under it unlike", y.same(1, 2), 0);
            LoftTree z = Tape.of(more + "fork under 2 chance 70 " + BARE + "fork under 2 chance 30 " + BARE);
            due("same(1, 2): one by one", z.same(1, 2), 0);
            LoftTree w = Tape.of(more + "fork under 2 chance 100 " + BARE);
            due("same(1, 2): another number", w.same(1, 2), 0);
        });
    }

    /** What a seed draws first: the least chance with which the first of two is come to, less 1. */
    private static int drawn(int seed) {
        LoftTree x = Tape.of(fan(ROOT, 1, 99));
        for (int chance = 1; chance < 100; chance++) {
            if (x.run(seed) == 1) {
                return chance - 1;
            }
            x.move(0, 1, 0, 1);
        }
        return 99;
    }

    private static void runs() {
        test(TERMS, "A RUN: s is the seed; at each FORK with some under it: s becomes s * 1103515245 + 12345 (32 bits), r is (s >>> 16) % 100;", () -> {
            // s is 12345, 1103527590, 2207042835, 3191464396, 2147495993 and 1043980748
            int[][] seeds = {{0, 0}, {1, 38}, {2, 76}, {-1, 97}, {MIN, 68}, {MAX, 29}};
            for (int[] s : seeds) {
                due("what is drawn by " + s[0], drawn(s[0]), s[1]);
            }
            // by 0 it is 12345, 3554416254, 2802067423, 3596950572: 0, 36, 56, 85
            int[] drawn = {0, 36, 56, 85};
            for (int far = 0; far < 4; far++) {
                StringBuilder text = new StringBuilder(ROOT);
                for (int f = 0; f < far; f++) {
                    text.append("fork under ").append(f).append(" chance 100 ").append(BARE);
                }
                String fork = "fork under " + far + " chance ";
                text.append(fork).append(drawn[far] + 1).append(" ").append(BARE).append(fork).append(99 - drawn[far]).append(" ").append(BARE);
                LoftTree x = Tape.of(text.toString());
                due("run(0), " + far + " away", x.run(0), far + 1);
                x.move(far, 0, 1, 1);
                due("run(0), " + far + " away, one less", x.run(0), far + 2);
            }
            LoftTree end = Tape.of(ROOT);
            due("run(7): none is under it", end.run(7), 0);
        });
        test(TERMS, "the first FORK under it such that r is below the sum of the chances up to it.", () -> {
            // by 1 it is 38
            LoftTree x = Tape.of(fan(ROOT, 10, 20, 8, 1, 61));
            due("run(1): 38 is below 39", x.run(1), 4);
            x.move(0, 3, 4, 1);
            due("run(1): one of no chance is passed by", x.run(1), 5);
            x.move(0, 4, 0, 1);
            due("run(1): 39 with the third", x.run(1), 3);
            x.move(0, 2, 1, 8);
            due("run(1): 39 with the second", x.run(1), 2);
            x.move(0, 1, 0, 28);
            due("run(1): 39 with the first", x.run(1), 1);
        });
    }
}
