/** Promises 7 to 18: the best steps, and the plan. */
final class SentencesOfSteps extends Sentences {
    /** 21 stocks can be left, wide or not: no fork can have more steps. */
    private static final String ROOMY = "start 10;cap 20;wide 20 cost 1;root price 1 most 20 sell 0 need 0;";

    private SentencesOfSteps() {
    }

    static void tell() {
        best();
        steps();
        more();
        plan();
        plans();
        planned();
        judge();
        cost();
        within();
    }

    private static void best() {
        test(7, "The least COUNT (III) from NOW on;", () -> {
            LoftTree x = Tape.of(HAY);
            due("best(0)", x.best(0), 9 * E8);
            due("best(1)", x.best(1), 9);
            due("best(2)", x.best(2), 4);
            goBy(x, -1, 0, 1);
            due("best(0) at fork 2, with nothing there", x.best(0), 24 * E6);
            due("best(1) at fork 2", x.best(1), 24);
            due("best(2) at fork 2", x.best(2), 0);
        });
        test(7, "NEVER (Long.MIN_VALUE): nothing is lawful; another COUNT.", () -> {
            for (int count = 0; count <= 2; count++) {
                due("best(" + count + ") of a lost one", Tape.of(LOST).best(count), NEVER);
                due("best(" + count + ") of one that is stuck", Tape.of(STUCK).best(count), NEVER);
            }
            for (int count : NO_COUNTS) {
                due("best(" + count + ")", Tape.of(HAY).best(count), NEVER);
            }
            due("NEVER", LoftTree.NEVER, Long.MIN_VALUE);
        });
        test(8, "The first STEP of that NOW, what 0: x, 1: b.", () -> {
            LoftTree x = Tape.of(HAY);
            int[] first = {2, 2, 1};
            for (int count = 0; count <= 2; count++) {
                due("step(" + count + ", 0)", x.step(count, 0), first[count]);
                due("step(" + count + ", 1)", x.step(count, 1), 0);
            }
            LoftTree y = Tape.of("cap 1;wide 4 cost 9;root price 2 most 4 sell 0 need 0;fork under 0 chance 100 price 0 most 0 sell 0 need 3;");
            due("step(0, 0), widened", y.step(0, 0), 3);
            due("step(0, 1), widened", y.step(0, 1), 1);
            LoftTree z = Tape.of("start 20;cap 20;root price 0 most 0 sell 1 need 0;");
            due("step(0, 0): all sold", z.step(0, 0), -20);
            LoftTree far = Tape.of(FAR_END);
            for (int i = 0; i < 4; i++) {
                due("step(0, 1), " + i + " away", far.step(0, 1), 0);
                far.go(0);
            }
            due("step(0, 0), four away", far.step(0, 0), 9);
            due("step(0, 1), four away", far.step(0, 1), 1);
            goBy(x, 2, 1, 1);
            for (int count = 0; count <= 2; count++) {
                due("step(" + count + ", 0) when wide", x.step(count, 0), 0);
                due("step(" + count + ", 1) when wide", x.step(count, 1), 0);
            }
        });
        test(8, "NOTHING likewise, or another what.", () -> {
            for (int count = 0; count <= 2; count++) {
                due("step(" + count + ", 0) of a lost one", Tape.of(LOST).step(count, 0), NOTHING);
                due("step(" + count + ", 1) of one that is stuck", Tape.of(STUCK).step(count, 1), NOTHING);
            }
            LoftTree x = Tape.of(HAY);
            for (int count : NO_COUNTS) {
                due("step(" + count + ", 0)", x.step(count, 0), NOTHING);
                due("step(" + count + ", 1)", x.step(count, 1), NOTHING);
            }
            for (int what : NO_FLAGS) {
                due("step(0, " + what + ")", x.step(0, what), NOTHING);
            }
        });
    }

    private static void steps() {
        test(9, "STEPS that are lawful NOW and behind which something is lawful everywhere.", () -> {
            due("steps()", Tape.of(HAY).steps(), 12);
            due("steps(): 3 and 4 lead on at fork 2 too", Tape.of(THREE).steps(), 2);
            due("steps() of a lost one", Tape.of(LOST).steps(), 0);
            due("steps() of one that is stuck", Tape.of(STUCK).steps(), 0);
            due("steps() of the most there can be", Tape.of(ROOMY).steps(), 42);
            LoftTree x = Tape.of(HAY);
            goBy(x, 4, 1, 0);
            due("steps() at an end: 5 there, 3 needed, 0 .. 5 left, wide", x.steps(), 6);
        });
        test(10, "Of the i-th of these (in their order), what 0: x, 1: b.", () -> {
            LoftTree x = Tape.of(ROOMY);
            for (int i = 0; i < 42; i++) {
                due("first(" + i + ", 0)", x.first(i, 0), i % 21 - 10);
                due("first(" + i + ", 1)", x.first(i, 1), i / 21);
            }
            LoftTree three = Tape.of(THREE);
            due("first(0, 0): what leads nowhere is none of these", three.first(0, 0), 3);
            due("first(1, 0)", three.first(1, 0), 4);
        });
        test(10, "NOTHING for others.", () -> {
            LoftTree x = Tape.of(HAY);
            for (int i : new int[] {-1, 12, 13, 42, MIN, MAX}) {
                due("first(" + i + ", 0)", x.first(i, 0), NOTHING);
                due("first(" + i + ", 1)", x.first(i, 1), NOTHING);
            }
            for (int what : NO_FLAGS) {
                due("first(0, " + what + ")", x.first(0, what), NOTHING);
            }
            due("first(42, 0) of the most there can be", Tape.of(ROOMY).first(42, 0), NOTHING);
            due("first(2, 0)", Tape.of(THREE).first(2, 0), NOTHING);
            due("first(0, 0) of a lost one", Tape.of(LOST).first(0, 0), NOTHING);
        });
    }

    private static void more() {
        test(11, "By how much its COUNT, all best behind it, is above the least.", () -> {
            LoftTree x = Tape.of(HAY);
            int[][] above = {{5, 2, 1, 0, 3, 6}, {14, 8, 4, 0, 3, 6}, {10, 4, 0, 0, 3, 6}};
            for (int i = 0; i < 12; i++) {
                int widened = i / 6 * 7;
                due("more(0, " + i + ")", x.more(0, i), (above[0][i % 6] + widened) * E8);
                due("more(1, " + i + ")", x.more(1, i), above[1][i % 6] + widened);
                due("more(2, " + i + ")", x.more(2, i), above[2][i % 6] + widened);
            }
            goBy(x, -1, 0, 1);
            due("more(0, 1) at fork 2: widened", x.more(0, 1), 7 * E6);
        });
        test(11, "NEVER for others.", () -> {
            LoftTree x = Tape.of(HAY);
            for (int count = 0; count <= 2; count++) {
                for (int i : new int[] {-1, 12, 13, MIN, MAX}) {
                    due("more(" + count + ", " + i + ")", x.more(count, i), NEVER);
                }
                due("more(" + count + ", 0) of a lost one", Tape.of(LOST).more(count, 0), NEVER);
                due("more(" + count + ", 2)", Tape.of(THREE).more(count, 2), NEVER);
            }
            for (int count : NO_COUNTS) {
                due("more(" + count + ", 0)", x.more(count, 0), NEVER);
            }
        });
        test(12, "How many of these come to the least COUNT.", () -> {
            LoftTree x = Tape.of(HAY);
            int[] ties = {1, 1, 2};
            for (int count = 0; count <= 2; count++) {
                due("ties(" + count + ")", x.ties(count), ties[count]);
                due("ties(" + count + ") of a lost one", Tape.of(LOST).ties(count), 0);
                due("ties(" + count + ") of a new one", new LoftTree().ties(count), 2);
                due("ties(" + count + ") of all", Tape.of("start 20;cap 20;wide 20 cost 0;" + ROOT).ties(count), 42);
            }
        });
        test(12, "-2: another COUNT.", () -> {
            for (int count : NO_COUNTS) {
                due("ties(" + count + ")", Tape.of(HAY).ties(count), -2);
                due("ties(" + count + ") of a lost one", Tape.of(LOST).ties(count), -2);
            }
        });
    }

    private static void plan() {
        test(13, "The PLAN at FORK f becomes the STEP x, b: true if it is lawful there in some STATE (any stock, wide or not);", () -> {
            LoftTree x = Tape.of(HAY);
            due("plan(0, 4, 0): most", x.plan(0, 4, 0), true);
            due("plan(1, -17, 0): of 20, 3 needed", x.plan(1, -17, 0), true);
            due("plan(2, 0, 1)", x.plan(2, 0, 1), true);
            due("planned(0, 0)", x.planned(0, 0), 4);
            due("planned(1, 0)", x.planned(1, 0), -17);
            due("planned(2, 1)", x.planned(2, 1), 1);
            LoftTree needy = Tape.of("root price 1 most 20 sell 0 need 20;");
            due("plan(0, 0, 0): with 20 alone", needy.plan(0, 0, 0), true);
            due("plan(0, 20, 0): with none alone", needy.plan(0, 20, 0), true);
            LoftTree wide = Tape.of("wide 8 cost 1;root price 1 most 20 sell 0 need 0;");
            due("plan(0, 8, 0): when wide alone", wide.plan(0, 8, 0), true);
            due("plan(0, 8, 1): when not wide alone", wide.plan(0, 8, 1), true);
            LoftTree all = Tape.of("cap 20;root price 1 most 20 sell 0 need 0;");
            due("plan(0, -20, 0)", all.plan(0, -20, 0), true);
            due("plan(0, 20, 0)", all.plan(0, 20, 0), true);
            goBy(x, 2, 0, 0);
            due("plan(2, 1, 0) beside us", x.plan(2, 1, 0), true);
            due("plan(0, 1, 0) behind us", x.plan(0, 1, 0), true);
            due("planned(0, 0)", x.planned(0, 0), 1);
        });
        test(13, "false, and it stays, else.", () -> {
            LoftTree x = Tape.of(HAY);
            x.plan(0, 1, 1);
            int[][] refused = {{0, 5, 0}, {0, -20, 0}, {0, -21, 0}, {0, MAX, 0}, {0, MIN, 0}, {0, 0, 2}, {0, 0, -1}, {0, 0, MAX}, {0, 0, MIN},
                {0, 5, 1}, {0, -20, 1}, {3, 0, 0}, {-1, 0, 0}, {40, 0, 0}, {MAX, 0, 0}, {MIN, 0, 0}};
            for (int[] r : refused) {
                due("plan(" + r[0] + ", " + r[1] + ", " + r[2] + ")", x.plan(r[0], r[1], r[2]), false);
                due("planned(0, 0)", x.planned(0, 0), 1);
                due("planned(0, 1)", x.planned(0, 1), 1);
            }
            LoftTree wide = Tape.of("wide 8 cost 1;root price 1 most 20 sell 0 need 0;");
            due("plan(0, 9, 0)", wide.plan(0, 9, 0), false);
            due("plan(0, 9, 1)", wide.plan(0, 9, 1), false);
            LoftTree cap = Tape.of("cap 8;root price 1 most 20 sell 0 need 0;");
            due("plan(0, 8, 0): when not wide alone", cap.plan(0, 8, 0), true);
            due("plan(0, 1, 1): nothing can be in it when wide", cap.plan(0, 1, 1), false);
            LoftTree needy = Tape.of("root price 1 most 0 sell 0 need 20;");
            due("plan(0, -1, 0)", needy.plan(0, -1, 0), false);
        });
    }

    private static void plans() {
        test(14, "plan() for FORKS 0, 1, .. by the numbers of a SLOT's row, two for each (an odd one out is not looked at), "
            + "those that are refused left out: how many were not.", () -> {
            LoftTree x = Tape.of(HAY);
            x.plan(1, 3, 0);
            x.row(3, 1, 5);
            x.write(3, 0, 2);
            x.write(3, 1, 1);
            x.write(3, 2, 4);
            x.write(3, 4, 1);
            due("plans(3): fork 1 refused, 5 numbers", x.plans(3), 1);
            due("planned(0, 0)", x.planned(0, 0), 2);
            due("planned(0, 1)", x.planned(0, 1), 1);
            due("planned(1, 0) stays", x.planned(1, 0), 3);
            due("planned(2, 0): the odd one out", x.planned(2, 0), 0);
            x.row(3, 1, 60);
            due("plans(3): 30 for three forks", x.plans(3), 3);
            due("planned(1, 0)", x.planned(1, 0), 0);
            x.row(3, 1, 0);
            due("plans(3) of a row of none", x.plans(3), 0);
            x.row(3, 1, 1);
            x.write(3, 0, 2);
            due("plans(3) of a row of one", x.plans(3), 0);
            due("planned(0, 0)", x.planned(0, 0), 0);
            x.row(3, 3, 2);
            x.write(3, 0, (1L << 32) + 1);
            due("plans(3) of 2^32 + 1 bought", x.plans(3), 0);
            x.write(3, 0, 1);
            x.write(3, 1, 1L << 32);
            due("plans(3) of b 2^32", x.plans(3), 0);
            due("planned(0, 0)", x.planned(0, 0), 0);
            LoftTree forty = Tape.of(forks(40));
            forty.row(0, 0, 60);
            forty.write(0, 59, 1);
            due("plans(0) of 30 forks", forty.plans(0), 30);
            due("planned(29, 1)", forty.planned(29, 1), 1);
        });
        test(14, "-2: there is no such SLOT;", () -> {
            LoftTree x = Tape.of(HAY);
            for (int slot : new int[] {-1, 4, 5, MIN, MAX}) {
                due("plans(" + slot + ")", x.plans(slot), -2);
            }
        });
        test(14, "-6: it has nothing.", () -> {
            LoftTree x = Tape.of(HAY);
            for (int slot = 0; slot <= 3; slot++) {
                due("plans(" + slot + ")", x.plans(slot), -6);
            }
            x.row(2, 0, 0);
            due("plans(2): a row of none", x.plans(2), 0);
            due("plans(1)", x.plans(1), -6);
        });
    }

    private static void planned() {
        test(15, "The PLAN at FORK f, what 0: x, 1: b, 2: the stock that it leaves there, 3: whether it is wide then", () -> {
            LoftTree x = Tape.of(HAY);
            x.plan(0, 3, 1);
            x.plan(1, 1, 0);
            int[][] told = {{3, 1, 4, 1}, {1, 0, 2, 1}, {0, 0, 1, 1}};
            for (int f = 0; f <= 2; f++) {
                for (int what = 0; what <= 3; what++) {
                    due("planned(" + f + ", " + what + ")", x.planned(f, what), told[f][what]);
                }
            }
            x.plan(0, 2, 0);
            due("planned(0, 2)", x.planned(0, 2), 3);
            due("planned(0, 3)", x.planned(0, 3), 0);
            due("planned(2, 2): none", x.planned(2, 2), 0);
        });
        test(15, "(of 2, 3 NOTHING if it does not come there lawfully).", () -> {
            LoftTree x = Tape.of(HAY);
            x.plan(0, -2, 0);
            for (int f = 0; f <= 2; f++) {
                due("planned(" + f + ", 2), unlawful at fork 0", x.planned(f, 2), NOTHING);
                due("planned(" + f + ", 3), unlawful at fork 0", x.planned(f, 3), NOTHING);
            }
            due("planned(0, 0)", x.planned(0, 0), -2);
            x.plan(0, 3, 1);
            x.plan(1, 0, 1);
            due("planned(1, 2): wide already", x.planned(1, 2), NOTHING);
            due("planned(1, 3): wide already", x.planned(1, 3), NOTHING);
            due("planned(2, 2): not under it", x.planned(2, 2), 1);
            x.go(1);
            due("planned(0, 2) behind us", x.planned(0, 2), NOTHING);
            due("planned(1, 2) beside us", x.planned(1, 2), NOTHING);
            due("planned(0, 0) behind us", x.planned(0, 0), 3);
            LoftTree chain = Tape.of(CHAIN);
            chain.plan(4, 1, 0);
            due("planned(2, 2)", chain.planned(2, 2), 0);
            due("planned(3, 2): none is there, one is needed", chain.planned(3, 2), NOTHING);
            due("planned(4, 2): it is not come to", chain.planned(4, 2), NOTHING);
            due("planned(4, 0)", chain.planned(4, 0), 1);
        });
        test(15, "NOTHING for others.", () -> {
            LoftTree x = hayPlanned();
            for (int f : new int[] {-1, 3, 40, MIN, MAX}) {
                for (int what = 0; what <= 3; what++) {
                    due("planned(" + f + ", " + what + ")", x.planned(f, what), NOTHING);
                }
            }
            for (int what : new int[] {-1, 4, 5, MIN, MAX}) {
                due("planned(0, " + what + ")", x.planned(0, what), NOTHING);
            }
        });
    }

    private static void judge() {
        test(16, "The first FORK from NOW on (by numbers) at which the PLAN is not lawful though it is at all ahead;", () -> {
            LoftTree x = Tape.of(CROSSED);
            // sold at 3 and at 4 is more than is there: 3 has the lesser number, though 4 is under 1
            x.plan(3, -2, 0);
            x.plan(4, -2, 0);
            due("judge()", x.judge(), 3);
            x.plan(1, -3, 0);
            due("judge(): 1, with 4 under it", x.judge(), 1);
            x.plan(1, 0, 0);
            x.plan(3, 0, 0);
            due("judge()", x.judge(), 4);
            x.plan(3, -2, 0);
            x.go(0);
            due("judge() from fork 1 on", x.judge(), 4);
            x.again();
            x.plan(0, -3, 0);
            due("judge(): at once", x.judge(), 0);
            LoftTree y = Tape.of(CROSSED);
            y.plan(2, -3, 0);
            y.plan(3, -2, 0);
            y.plan(4, -2, 0);
            due("judge(): 2, not 3 under it", y.judge(), 2);
        });
        test(16, "NONE.", () -> {
            due("judge() of a new one", new LoftTree().judge(), NONE);
            due("judge()", hayPlanned().judge(), NONE);
            LoftTree x = Tape.of(HAY);
            x.plan(0, 1, 0);
            x.plan(1, 1, 0);
            due("judge()", x.judge(), 2);
            x.go(0);
            due("judge(): what is beside us is no matter", x.judge(), NONE);
        });
    }

    private static void cost() {
        test(17, "The PLAN's COUNT from NOW on.", () -> {
            LoftTree x = hayPlanned();
            due("cost(0)", x.cost(0), 27 * E8 / 2);
            due("cost(1)", x.cost(1), 20);
            due("cost(2)", x.cost(2), 11);
            x.go(1);
            due("cost(0) at fork 2", x.cost(0), 15 * E6);
            due("cost(1) at fork 2", x.cost(1), 15);
            due("cost(2) at fork 2: 8 would do", x.cost(2), 7);
            LoftTree one = Tape.of("start 20;cap 20;hold 3;" + ROOT);
            due("cost(0) of fork 0 alone", one.cost(0), 60 * E8);
            due("cost(1) of fork 0 alone", one.cost(1), 60);
            due("cost(2) of fork 0 alone: all could be given away", one.cost(2), 60);
        });
        test(17, "NEVER: it is not lawful; another COUNT.", () -> {
            LoftTree x = hayPlanned();
            for (int count : NO_COUNTS) {
                due("cost(" + count + ")", x.cost(count), NEVER);
            }
            x.plan(2, 0, 0);
            for (int count = 0; count <= 2; count++) {
                due("cost(" + count + "), unlawful at one end", x.cost(count), NEVER);
            }
            x.move(0, 1, 0, 50);
            due("cost(0), unlawful at an end of no chance", x.cost(0), NEVER);
            x.go(0);
            due("cost(0), what is beside us is no matter", x.cost(0), 2 * E6);
        });
    }

    private static void within() {
        test(18, "The least cost so that ENDS to which the PLAN costs no more have n hundredths (1 .. 100) of all chances, or more.", () -> {
            LoftTree x = hayPlanned();
            due("within(1)", x.within(1), 7);
            due("within(50)", x.within(50), 7);
            due("within(51)", x.within(51), 20);
            due("within(100)", x.within(100), 20);
            x.move(0, 0, 1, 49);
            due("within(1): one hundredth", x.within(1), 7);
            due("within(2)", x.within(2), 20);
            x.move(0, 0, 1, 1);
            due("within(1): an end of no chance", x.within(1), 20);
            LoftTree needle = Tape.of(NEEDLE);
            needle.take(0);
            due("within(99) of a needle", needle.within(99), 0);
            due("within(100): all but one of 10^8 are too few", needle.within(100), 1);
            needle.go(0);
            needle.go(0);
            due("within(99) from fork 3 on", needle.within(99), 0);
            due("within(100) from fork 3 on", needle.within(100), 1);
            LoftTree gain = Tape.of("start 20;cap 20;left 99;" + ROOT);
            due("within(100) of what is left", gain.within(100), -1980);
        });
        test(18, "NOTHING: it is not lawful; another n.", () -> {
            LoftTree x = hayPlanned();
            for (int n : new int[] {0, -1, 101, 102, MIN, MAX}) {
                due("within(" + n + ")", x.within(n), NOTHING);
            }
            x.plan(2, 0, 0);
            due("within(1), unlawful at one end", x.within(1), NOTHING);
            due("within(100), unlawful at one end", x.within(100), NOTHING);
        });
    }
}
