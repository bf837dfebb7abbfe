/** Promises 35 to 45: forks that are alike, edges, changes, years that go by, runs. */
final class SentencesOfChange extends Sentences {
    /** 1 is bought for nothing as long as fork 2 has any chance, and not at all when it has none. */
    private static final String ANY_CHANCE = "cap 1;root price 0 most 1 sell 0 need 0;fork under 0 chance 40 " + BARE
        + "fork under 0 chance 60 price 5 most 9 sell 0 need 1;";

    private SentencesOfChange() {
    }

    static void tell() {
        same();
        kinds();
        edge();
        rise();
        move();
        set();
        go();
        now();
        run();
    }

    private static void same() {
        test(35, "Whether two FORKS are alike (IV): 1, 0.", () -> {
            LoftTree x = Tape.of(CROSSED);
            int[][] alike = {{1, 0, 0, 0, 0}, {0, 1, 1, 0, 0}, {0, 1, 1, 0, 0}, {0, 0, 0, 1, 1}, {0, 0, 0, 1, 1}};
            for (int f = 0; f <= 4; f++) {
                for (int g = 0; g <= 4; g++) {
                    due("same(" + f + ", " + g + ")", x.same(f, g), alike[f][g]);
                }
            }
            x.go(0);
            due("same(2, 3) beside us", x.same(2, 3), 0);
            due("same(1, 2) beside us", x.same(1, 2), 1);
            due("same(0, 0) of a new one", new LoftTree().same(0, 0), 1);
        });
        test(35, "-2: there are none such.", () -> {
            LoftTree x = Tape.of(HAY);
            for (int f : new int[] {-1, 3, 40, MIN, MAX}) {
                due("same(" + f + ", 0)", x.same(f, 0), -2);
                due("same(0, " + f + ")", x.same(0, f), -2);
                due("same(" + f + ", " + f + ")", x.same(f, f), -2);
            }
        });
    }

    private static void kinds() {
        test(36, "How many FORKS there are that are not alike.", () -> {
            due("kinds() of a new one", new LoftTree().kinds(), 1);
            due("kinds() of HAY", Tape.of(HAY).kinds(), 3);
            due("kinds() of a chain", Tape.of(CHAIN).kinds(), 5);
            LoftTree x = Tape.of(CROSSED);
            due("kinds(): 0, 1 and 2, 3 and 4", x.kinds(), 3);
            x.set(4, 0, 2);
            due("kinds() of all unlike", x.kinds(), 5);
            // 0, 1 (chances 60, 10, ..), 7 (four under it), 2 to 6 (five), and the ends
            due("kinds() of 40", Tape.of(forks(40)).kinds(), 5);
            LoftTree far = Tape.of(fan(ROOT, 50, 50) + "fork under 1 chance 100 " + BARE);
            due("kinds(): ends near and far are alike", far.kinds(), 3);
            far.go(1);
            due("kinds(): all, not from NOW on alone", far.kinds(), 3);
        });
    }

    private static void edge() {
        test(37, "The least n (1 and more) of hundredths that, going from the i-th FORK under f to the j-th, change the first STEP of the least mean NOW;", () -> {
            LoftTree x = Tape.of(HAY);
            // with 34 in 100 for fork 2 leaving 3 is best (9), with 33 leaving 1 is (5 + 12 * 0.33)
            due("edge(0, 1, 0)", x.edge(0, 1, 0), 17);
            due("fork(2, 1) stays", x.fork(2, 1), 50);
            due("best(0) stays", x.best(0), 9 * E8);
            x.move(0, 1, 0, 16);
            due("edge(0, 1, 0), on the brink", x.edge(0, 1, 0), 1);
            x.move(0, 1, 0, 1);
            due("step(0, 0)", x.step(0, 0), 0);
            due("edge(0, 0, 1), on the brink", x.edge(0, 0, 1), 1);
            due("edge(0, 1, 0) of ANY_CHANCE: all that it has", Tape.of(ANY_CHANCE).edge(0, 1, 0), 60);
            LoftTree rue = Tape.of(RUE);
            due("edge(1, 1, 0): with 10 in 100 not to buy is as good", rue.edge(1, 1, 0), 40);
            goBy(rue, 2, 0, 0);
            due("edge(1, 1, 0) at fork 1: with 30 in 100", rue.edge(1, 1, 0), 20);
        });
        test(37, "NONE: none does.", () -> {
            LoftTree x = Tape.of(ANY_CHANCE);
            due("edge(0, 0, 1)", x.edge(0, 0, 1), NONE);
            x.move(0, 1, 0, 59);
            due("edge(0, 1, 0) of one hundredth", x.edge(0, 1, 0), 1);
            x.move(0, 1, 0, 1);
            due("edge(0, 1, 0) of none", x.edge(0, 1, 0), NONE);
            due("edge(0, 0, 1)", x.edge(0, 0, 1), 1);
            x.move(0, 0, 1, 1);
            x.set(2, 1, 0);
            due("edge(0, 1, 0): it must be there even without a chance", x.edge(0, 1, 0), NONE);
            goBy(x, 1, 0, 0);
            due("edge(0, 1, 0) behind us", x.edge(0, 1, 0), NONE);
            // 1 is bought at 0 only if fork 2 were more than sure
            LoftTree y = Tape.of("cap 1;root price 5 most 1 sell 0 need 0;fork under 0 chance 40 " + BARE
                + "fork under 0 chance 60 price 5 most 9 sell 0 need 1;");
            due("edge(0, 0, 1): 41 there are not", y.edge(0, 0, 1), NONE);
        });
        test(37, "-2: there are none such, i is j;", () -> {
            for (String text : new String[] {HAY, LOST}) {
                LoftTree x = Tape.of(text);
                int[][] wrong = {{0, 0, 0}, {0, 1, 1}, {0, 2, 2}, {0, -1, -1}, {0, 0, 2}, {0, 2, 0}, {0, 0, -1}, {0, -1, 0}, {0, 0, MAX}, {0, MIN, 0},
                    {1, 0, 1}, {2, 0, 1}, {3, 0, 1}, {-1, 0, 1}, {40, 0, 1}, {MAX, 0, 1}, {MIN, 0, 1}};
                for (int[] w : wrong) {
                    due("edge(" + w[0] + ", " + w[1] + ", " + w[2] + ")", x.edge(w[0], w[1], w[2]), -2);
                }
            }
        });
        test(37, "NONE too if nothing is lawful.", () -> {
            due("edge(0, 0, 1) of a lost one", Tape.of(LOST).edge(0, 0, 1), NONE);
            due("edge(0, 1, 0) of a lost one", Tape.of(LOST).edge(0, 1, 0), NONE);
        });
    }

    /** 1 bought at fork 0 costs its price and 99 held; at fork 1 it costs 99 and the rise. */
    private static String dear(int price) {
        return "cap 1;hold 99;root price " + price + " most 1 sell 0 need 0;fork under 0 chance 100 price 99 most 1 sell 0 need 1;";
    }

    private static void rise() {
        test(38, "The least rise (1 .. 99) of the price at f (to above 99, too) that does so;", () -> {
            LoftTree x = Tape.of(HAY);
            due("rise(0): by 1 leaving 2 is as good", x.rise(0), 1);
            due("fork(0, 2) stays", x.fork(0, 2), 3);
            due("best(0) stays", x.best(0), 9 * E8);
            due("rise(1): to 198, above 197", Tape.of(dear(98)).rise(1), 99);
            due("rise(1): to 100, above 99", Tape.of(dear(0)).rise(1), 1);
            due("rise(1): to 150, above 149", Tape.of(dear(50)).rise(1), 51);
            LoftTree y = Tape.of("cap 5;root price 0 most 3 sell 0 need 0;fork under 0 chance 100 price 99 most 3 sell 0 need 1;");
            due("rise(0): 99 is as good", y.rise(0), 99);
        });
        test(38, "NONE;", () -> {
            due("rise(1): 199 would do, 198 does not", Tape.of(dear(99)).rise(1), NONE);
            LoftTree x = Tape.of(HAY);
            due("rise(1)", x.rise(1), NONE);
            goBy(x, 2, 0, 0);
            due("rise(0) behind us", x.rise(0), NONE);
            due("rise(2) beside us", x.rise(2), NONE);
            due("rise(0) of a lost one", Tape.of(LOST).rise(0), NONE);
            due("rise(1) of one that is stuck", Tape.of(STUCK).rise(1), NONE);
            due("rise(0) of a new one", new LoftTree().rise(0), NONE);
        });
        test(38, "-2 likewise.", () -> {
            for (String text : new String[] {HAY, LOST}) {
                for (int f : new int[] {-1, 3, 40, MIN, MAX}) {
                    due("rise(" + f + ")", Tape.of(text).rise(f), -2);
                }
            }
        });
    }

    private static void move() {
        test(39, "So many hundredths go from the i-th FORK under f to the j-th: the chance of the j-th.", () -> {
            LoftTree x = Tape.of(fan(ROOT, 20, 30, 50));
            due("move(0, 0, 2, 1)", x.move(0, 0, 2, 1), 51);
            due("fork(1, 1)", x.fork(1, 1), 19);
            due("fork(2, 1)", x.fork(2, 1), 30);
            due("fork(3, 1)", x.fork(3, 1), 51);
            due("move(0, 0, 2, 19): all", x.move(0, 0, 2, 19), 70);
            due("fork(1, 1)", x.fork(1, 1), 0);
            due("move(0, 1, 2, 30)", x.move(0, 1, 2, 30), 100);
            due("move(0, 2, 0, 100)", x.move(0, 2, 0, 100), 100);
            LoftTree y = Tape.of(HAY);
            due("best(0)", y.best(0), 9 * E8);
            y.move(0, 1, 0, 50);
            due("best(0), fork 1 sure", y.best(0), 5 * E8);
            goBy(y, 2, 0, 0);
            due("move(0, 0, 1, 1) behind us", y.move(0, 0, 1, 1), 1);
        });
        test(39, "-2: there are none such, i is j;", () -> {
            LoftTree x = Tape.of(HAY);
            int[][] wrong = {{0, 0, 0}, {0, 1, 1}, {0, 2, 2}, {0, 0, 2}, {0, 2, 0}, {0, 0, -1}, {0, -1, 0}, {0, 0, MAX}, {0, MIN, 0}, {1, 0, 1}, {3, 0, 1},
                {-1, 0, 1}, {40, 0, 1}, {MAX, 0, 1}, {MIN, 0, 1}};
            for (int[] w : wrong) {
                for (int n : new int[] {1, 0, -1, 51, MIN, MAX}) {
                    due("move(" + w[0] + ", " + w[1] + ", " + w[2] + ", " + n + ")", x.move(w[0], w[1], w[2], n), -2);
                }
            }
            due("fork(1, 1) stays", x.fork(1, 1), 50);
            due("fork(2, 1) stays", x.fork(2, 1), 50);
        });
        test(39, "-7: the i-th has not so many, n is below 1.", () -> {
            LoftTree x = Tape.of(HAY);
            for (int n : new int[] {51, 52, 100, MAX, 0, -1, -50, MIN}) {
                due("move(0, 0, 1, " + n + ")", x.move(0, 0, 1, n), -7);
                due("fork(1, 1) stays", x.fork(1, 1), 50);
                due("fork(2, 1) stays", x.fork(2, 1), 50);
            }
            due("move(0, 0, 1, 50)", x.move(0, 0, 1, 50), 100);
            due("move(0, 0, 1, 1) of none", x.move(0, 0, 1, 1), -7);
        });
    }

    private static void set() {
        test(40, "Of FORK f price (what 0), most (1), sell (2), need (3) becomes v, as a TEXT may tell it: what it was.", () -> {
            LoftTree x = Tape.of(HAY);
            int[] was = {8, 3, 1, 3};
            int[] most = {99, 20, 99, 20};
            for (int what = 0; what <= 3; what++) {
                due("set(2, " + what + ", 0)", x.set(2, what, 0), was[what]);
                due("fork(2, " + (2 + what) + ")", x.fork(2, 2 + what), 0);
                due("set(2, " + what + ", most)", x.set(2, what, most[what]), 0);
                due("fork(2, " + (2 + what) + ")", x.fork(2, 2 + what), most[what]);
                due("fork(1, " + (2 + what) + ") stays", x.fork(1, 2 + what), new int[] {2, 3, 1, 3}[what]);
            }
            due("set(0, 3, 0)", x.set(0, 3, 0), 1);
            LoftTree y = Tape.of(HAY);
            due("best(1)", y.best(1), 9);
            due("best(2)", y.best(2), 4);
            y.set(2, 0, 2);
            due("best(0) told anew", y.best(0), 5 * E8);
            due("best(1) told anew", y.best(1), 5);
            due("best(2) told anew", y.best(2), 0);
        });
        test(40, "-2: others.", () -> {
            LoftTree x = Tape.of(HAY);
            int[][] wrong = {{2, 0, 100}, {2, 1, 21}, {2, 2, 100}, {2, 3, 21}, {2, 0, -1}, {2, 1, -1}, {2, 2, -1}, {2, 3, -1}, {2, 0, MAX}, {2, 1, MIN},
                {2, 4, 1}, {2, -1, 1}, {2, MAX, 1}, {2, MIN, 1}, {3, 0, 1}, {-1, 0, 1}, {40, 0, 1}, {MAX, 0, 1}, {MIN, 0, 1}};
            for (int[] w : wrong) {
                due("set(" + w[0] + ", " + w[1] + ", " + w[2] + ")", x.set(w[0], w[1], w[2]), -2);
            }
            int[] stays = {8, 3, 1, 3};
            for (int what = 0; what <= 3; what++) {
                due("fork(2, " + (2 + what) + ")", x.fork(2, 2 + what), stays[what]);
            }
        });
    }

    private static void go() {
        test(41, "A year goes by: the STEP of the PLAN is done, NOW is the i-th FORK under it: its number.", () -> {
            LoftTree x = Tape.of(HAY);
            due("go(1)", goBy(x, 2, 1, 1), 2);
            int[] now = {2, 3, 1, 16, 1};
            for (int what = 0; what <= 4; what++) {
                due("now(" + what + ")", x.now(what), now[what]);
            }
            LoftTree crossed = Tape.of(CROSSED);
            due("go(1)", crossed.go(1), 2);
            due("go(0)", crossed.go(0), 3);
            LoftTree five = Tape.of(forks(40));
            due("go(4)", five.go(4), 5);
            due("go(4)", five.go(4), 30);
        });
        test(41, "-2: there is none such;", () -> {
            LoftTree x = Tape.of(HAY);
            for (int i : new int[] {-1, 2, 3, 5, MIN, MAX}) {
                due("go(" + i + ")", x.go(i), -2);
            }
            x.plan(0, -2, 0);
            due("go(2) of an unlawful step", x.go(2), -2);
            due("now(4) stays", x.now(4), 0);
            goBy(x, 2, 0, 0);
            due("go(0) at an end", x.go(0), -2);
            due("now(0) stays", x.now(0), 1);
        });
        test(41, "-5: the STEP is not lawful.", () -> {
            LoftTree x = Tape.of(HAY);
            x.plan(0, -2, 0);
            due("go(0)", x.go(0), -5);
            int[] now = {0, 2, 0, 0, 0};
            for (int what = 0; what <= 4; what++) {
                due("now(" + what + ") stays", x.now(what), now[what]);
            }
            due("go(0) of another step", goBy(x, 0, 0, 0), 1);
            LoftTree lost = Tape.of(LOST);
            due("go(1): its own step is lawful", lost.go(1), 2);
        });
    }

    private static void now() {
        test(42, "Of NOW, what 0: its FORK, 1: the stock, 2: whether it is wide, 3: what was spent, 4: years gone.", () -> {
            LoftTree x = Tape.of(CHAIN);
            int[][] now = {{0, 3, 0, 0, 0}, {1, 2, 0, 2, 1}, {2, 1, 0, 3, 2}, {3, 0, 0, 3, 3}, {4, 8, 0, 3 + 18 + 8, 4}};
            x.plan(3, 9, 0);
            for (int[] n : now) {
                for (int what = 0; what <= 4; what++) {
                    due("now(" + what + ") at fork " + n[0], x.now(what), n[what]);
                }
                x.go(0);
            }
            LoftTree y = Tape.of(fan("start 2;cap 2;wide 2 cost 9;root price 0 most 0 sell 20 need 0;", 100));
            goBy(y, -2, 1, 0);
            due("now(2)", y.now(2), 1);
            due("now(3): more came in", y.now(3), 9 - 40);
        });
        test(42, "NONE for another what.", () -> {
            for (int what : new int[] {-1, 5, 6, MIN, MAX}) {
                due("now(" + what + ")", Tape.of(HAY).now(what), NONE);
            }
        });
        test(43, "NOW is FORK 0 again, with what is told: years that had gone.", () -> {
            LoftTree x = Tape.of(CHAIN);
            due("again() at once", x.again(), 0);
            x.take(0);
            for (int i = 0; i < 4; i++) {
                x.go(0);
            }
            due("again()", x.again(), 4);
            due("again() again", x.again(), 0);
            LoftTree y = Tape.of(HAY);
            goBy(y, 2, 1, 1);
            y.set(0, 0, 5);
            due("again()", y.again(), 1);
            int[] now = {0, 2, 0, 0, 0};
            for (int what = 0; what <= 4; what++) {
                due("now(" + what + ")", y.now(what), now[what]);
            }
            due("planned(0, 0) stays", y.planned(0, 0), 2);
            due("fork(0, 2) stays as it was changed", y.fork(0, 2), 5);
            due("again() of a new one", new LoftTree().again(), 0);
            LoftTree z = Tape.of(HAY);
            goBy(z, -1, 0, 1);
            due("best(2) at fork 2", z.best(2), 0);
            due("reach(2, 0) at fork 2", z.reach(2, 0), 1);
            z.again();
            due("best(2) told anew", z.best(2), 4);
            due("reach(2, 0) told anew", z.reach(2, 0), 63);
        });
    }

    private static void run() {
        test(44, "The PLAN is run by a seed from NOW to an END (V): that FORK.", () -> {
            LoftTree x = hayPlanned();
            due("run(0)", x.run(0), 1);
            due("run(2)", x.run(2), 2);
            x.go(1);
            due("run(0) at an end", x.run(0), 2);
            LoftTree chain = Tape.of(CHAIN);
            chain.take(0);
            for (int seed : new int[] {0, 1, -1, MIN, MAX}) {
                due("run(" + seed + ") of a chain", chain.run(seed), 4);
            }
        });
        test(44, "-5: it is not lawful there.", () -> {
            LoftTree x = hayPlanned();
            x.plan(1, 0, 0);
            due("run(0): unlawful at fork 1", x.run(0), -5);
            due("run(2): not come to", x.run(2), 2);
            x.plan(0, -2, 0);
            due("run(2): unlawful at once", x.run(2), -5);
            LoftTree chain = Tape.of(CHAIN);
            chain.take(0);
            chain.plan(4, 0, 0);
            due("run(0) of a chain: unlawful at last", chain.run(0), -5);
        });
        test(44, "(NOW stays.)", () -> {
            LoftTree x = hayPlanned();
            x.run(2);
            int[] now = {0, 2, 0, 0, 0};
            for (int what = 0; what <= 4; what++) {
                due("now(" + what + ")", x.now(what), now[what]);
            }
        });
        test(45, "What the latest run() that came to an END cost.", () -> {
            LoftTree x = hayPlanned();
            x.run(2);
            due("ran()", x.ran(), 20);
            x.run(0);
            due("ran()", x.ran(), 7);
            x.plan(2, 0, 0);
            due("run(2)", x.run(2), -5);
            due("ran(): that one came to no end", x.ran(), 7);
            x.plan(2, 2, 0);
            x.go(1);
            due("ran(), gone since", x.ran(), 7);
            x.run(0);
            due("ran() from fork 2 on", x.ran(), 15);
            x.keep(0);
            Tape.tell(x, CHAIN);
            x.back(0);
            x.again();
            due("ran(), told and gone back since", x.ran(), 15);
        });
        test(45, "NOTHING ahead of any.", () -> {
            LoftTree x = hayPlanned();
            due("ran()", x.ran(), NOTHING);
            x.plan(0, -2, 0);
            x.run(0);
            due("ran() of one that came to no end", x.ran(), NOTHING);
            due("ran() of a new one", new LoftTree().ran(), NOTHING);
        });
    }
}
