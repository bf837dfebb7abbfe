/** Promises 46 to 51: what is counted, images, rows of numbers; and how long an object lasts. */
final class SentencesOfRows extends Sentences {
    private static final int[] NO_SLOTS = {-1, 4, 5, MIN, MAX};
    private static final int[] NO_IMAGES = {-1, 3, 4, MIN, MAX};
    /** 30 forks at each of which -20 .. 20 can be told, so that all 60 numbers of a row can be seen by the plan. */
    private static final String ROWS = "cap20;wide20cost1;" + forks(30).replace("most0", "most20");

    private SentencesOfRows() {
    }

    static void tell() {
        lasting();
        asking();
        count();
        keep();
        back();
        row();
        write();
        paste();
    }

    /** The slot's row has these numbers (of a pair the first one is -20 .. 20, the second one 0 or 1), and no others. */
    private static void holds(String when, LoftTree x, int slot, int... numbers) {
        for (int f = 0; f < 30; f++) {
            x.plan(f, 7, 0);
        }
        due("plans(" + slot + ") " + when, x.plans(slot), numbers.length / 2);
        for (int i = 0; i < numbers.length / 2 * 2; i++) {
            due("number " + i + " " + when, x.planned(i / 2, i % 2), numbers[i]);
        }
    }

    /** A slot's row becomes these numbers. */
    private static void fill(LoftTree x, int slot, int width, int... numbers) {
        x.row(slot, width, numbers.length);
        for (int i = 0; i < numbers.length; i++) {
            x.write(slot, i, numbers[i]);
        }
    }

    private static void lasting() {
        test(TERMS, "An object is used for at most 512 calls after it has been made;", () -> {
            LoftTree x = new LoftTree();
            int calls = 13;
            due("text(), after 10 calls of feed, count and end", Tape.tell(x, HAY), 3);
            for (; calls < 506; calls++) {
                int k = calls % 6;
                long got = k == 0 ? x.take(calls % 3) : k == 1 ? x.go(calls % 2) : k == 2 ? x.rise(0) : k == 3 ? x.keep(calls % 3) : k == 4 ? x.again() : x.lose(1);
                due("call " + calls, got == -5 || got == NEVER, false);
            }
            x.again();
            due("text() at the 508th", x.text(), -4);
            due("best(0) at the 509th", x.best(0), 9 * E8);
            due("best(2) at the 510th", x.best(2), 4);
            due("take(0) at the 511th", x.take(0) >= 0, true);
            due("cost(0) at the 512th", x.cost(0), 9 * E8);
        });
    }

    /** Questions that look at trees other than the one that is told. */
    private static long ask(LoftTree x, int question) {
        switch (question) {
            case 0: return x.best(0);
            case 1: return x.sooner(1);
            case 2: return x.middle();
            case 3: return x.late(0);
            case 4: return x.coin();
            case 5: return x.lose(1);
            case 6: return x.edge(1, 1, 0);
            case 7: return x.rise(1);
            case 8: return x.know();
            case 9: return x.step(2, 0);
            case 10: return x.steps();
            case 11: return x.joined();
            case 12: return x.kinds();
            default: return x.run(1);
        }
    }

    private static void asking() {
        test(TERMS, "Nothing is promised beyond the answers and state changes described above,", () -> {
            String bare = "start 1;cap 2;wide 5 cost 3;hold 1;left 2;root price 1 most 2 sell 0 need 0;fork under 0 chance 100 price 3 most 9 sell 0 need 0;"
                + "fork under 1 chance 50 price 0 most 9 sell 0 need 0;fork under 1 chance 50 price 10 most 9 sell 0 need 4;";
            for (int first = 0; first <= 13; first++) {
                for (int second = 0; second <= 13; second++) {
                    for (String text : new String[] {RUE, LATE_FORK, bare}) {
                        LoftTree x = Tape.of(text);
                        ask(x, first);
                        due("question " + second + " behind " + first, ask(x, second), ask(Tape.of(text), second));
                    }
                }
            }
        });
    }

    private static void count() {
        test(46, "0 FORKS, 1 ENDS, 2 bytes of the TAPE, 3 how far the furthest is, 4 start, 5 cap, 6 wide, 7 its cost, 8 hold, 9 left, 10 SLOTS that have a row.", () -> {
            LoftTree x = Tape.of(HAY);
            Tape.feed(x, "seven77");
            x.row(3, 0, 0);
            x.row(1, 2, 5);
            x.row(1, 3, 60);
            int[] all = {3, 2, 7, 1, 2, 5, 10, 7, 1, 2, 2};
            for (int what = 0; what <= 10; what++) {
                due("count(" + what + ")", x.count(what), all[what]);
            }
            goBy(x, 2, 0, 1);
            due("count(0): all, not from NOW on alone", x.count(0), 3);
            due("count(4): what is told", x.count(4), 2);
            x.row(0, 0, 1);
            x.row(2, 0, 1);
            due("count(10)", x.count(10), 4);
            due("count(3) of a chain", Tape.of(CHAIN).count(3), 4);
            LoftTree most = Tape.of("start 20;cap 20;wide 20 cost 999;hold 99;left 99;" + ROOT);
            int[] told = {20, 20, 20, 999, 99, 99};
            for (int what = 4; what <= 9; what++) {
                due("count(" + what + ")", most.count(what), told[what - 4]);
            }
            due("count(3) of one", most.count(3), 0);
            due("count(1) of one", most.count(1), 1);
        });
        test(46, "NONE for others.", () -> {
            for (int what : new int[] {-1, 11, 12, MIN, MAX}) {
                due("count(" + what + ")", Tape.of(HAY).count(what), NONE);
            }
        });
    }

    private static void keep() {
        test(47, "IMAGE k (0 .. 2) keeps TEXT (as it was changed), PLAN, NOW: 0.", () -> {
            LoftTree x = hayPlanned();
            due("keep(0)", x.keep(0), 0);
            x.set(2, 0, 50);
            x.move(0, 0, 1, 5);
            due("keep(1)", x.keep(1), 0);
            x.plan(2, 3, 1);
            x.go(1);
            due("keep(2)", x.keep(2), 0);
            x.set(2, 0, 1);
            x.plan(2, 0, 0);
            Tape.tell(x, CHAIN);
            int[][] kept = {{0, 8, 50, 2, 0}, {0, 50, 55, 2, 0}, {2, 50, 55, 3, 1}};
            for (int k = 0; k <= 2; k++) {
                x.back(k);
                due("now(0) of image " + k, x.now(0), kept[k][0]);
                due("fork(2, 2) of image " + k, x.fork(2, 2), kept[k][1]);
                due("fork(2, 1) of image " + k, x.fork(2, 1), kept[k][2]);
                due("planned(2, 0) of image " + k, x.planned(2, 0), kept[k][3]);
                due("planned(2, 1) of image " + k, x.planned(2, 1), kept[k][4]);
            }
            Tape.tell(x, CHAIN);
            due("keep(0) in place of another", x.keep(0), 0);
            x.back(1);
            x.back(0);
            due("count(0)", x.count(0), 5);
        });
        test(47, "-2: no such k.", () -> {
            LoftTree x = Tape.of(HAY);
            for (int k : NO_IMAGES) {
                due("keep(" + k + ")", x.keep(k), -2);
            }
            for (int k = 0; k <= 2; k++) {
                due("back(" + k + ") of nothing", x.back(k), -6);
            }
        });
    }

    private static void back() {
        test(48, "These are as IMAGE k has them: 0.", () -> {
            LoftTree x = hayPlanned();
            goBy(x, 2, 1, 1);
            x.keep(2);
            x.row(0, 1, 3);
            x.run(0);
            Tape.tell(x, "start 7;cap 9;" + ROOT);
            due("best(0)", x.best(0), 0);
            due("best(1)", x.best(1), 0);
            due("best(2)", x.best(2), 0);
            due("reach(0, 0)", x.reach(0, 0), 1 << 7);
            Tape.feed(x, "@@@@");
            due("back(2)", x.back(2), 0);
            int[] now = {2, 3, 1, 16, 1};
            for (int what = 0; what <= 4; what++) {
                due("now(" + what + ")", x.now(what), now[what]);
            }
            int[] counts = {3, 2, 4, 1, 2, 5, 10, 7, 1, 2, 1};
            for (int what = 0; what <= 10; what++) {
                due("count(" + what + "): tape and slots stay", x.count(what), counts[what]);
            }
            due("planned(0, 0)", x.planned(0, 0), 2);
            due("planned(0, 1)", x.planned(0, 1), 1);
            due("best(0)", x.best(0), 0);
            due("worth(2, 1, 1)", x.worth(2, 1, 1), 16 * E6);
            due("reach(2, 1)", x.reach(2, 1), 1 << 3);
            x.set(2, 0, 1);
            x.plan(2, 0, 0);
            x.again();
            due("back(2) again", x.back(2), 0);
            due("now(0)", x.now(0), 2);
            due("fork(2, 2)", x.fork(2, 2), 8);
            due("planned(2, 0)", x.planned(2, 0), 2);
            due("again() goes to what is told", x.again(), 1);
            due("now(1)", x.now(1), 2);
            due("best(0) from fork 0 on", x.best(0), 9 * E8);
            due("best(1) from fork 0 on", x.best(1), 9);
            due("best(2) from fork 0 on", x.best(2), 4);
        });
        test(48, "-2: no such k;", () -> {
            LoftTree x = Tape.of(HAY);
            x.keep(0);
            x.keep(1);
            x.keep(2);
            x.set(0, 0, 9);
            for (int k : NO_IMAGES) {
                due("back(" + k + ")", x.back(k), -2);
            }
            due("fork(0, 2) stays", x.fork(0, 2), 9);
        });
        test(48, "-6: it has nothing.", () -> {
            LoftTree x = Tape.of(HAY);
            x.set(0, 0, 9);
            for (int k = 0; k <= 2; k++) {
                due("back(" + k + ")", x.back(k), -6);
            }
            x.keep(1);
            due("back(0)", x.back(0), -6);
            due("back(1)", x.back(1), 0);
            due("back(2)", x.back(2), -6);
            due("fork(0, 2) stays", x.fork(0, 2), 9);
        });
    }

    private static void row() {
        test(49, "A SLOT (0 .. 3) has a row of n numbers of a WIDTH, all 0 (in place of another one): 0.", () -> {
            LoftTree x = Tape.of(ROWS);
            for (int slot = 0; slot <= 3; slot++) {
                for (int width = 0; width <= 3; width++) {
                    fill(x, slot, width, 5, 1, -5, 1);
                    holds("told", x, slot, 5, 1, -5, 1);
                    due("row(" + slot + ", " + width + ", 4)", x.row(slot, width, 4), 0);
                    holds("anew", x, slot, 0, 0, 0, 0);
                }
            }
            LoftTree y = Tape.of(ROWS);
            due("row(0, 3, 60)", y.row(0, 3, 60), 0);
            due("write(0, 59, 1)", y.write(0, 59, 1), 0);
            due("row(0, 0, 59)", y.row(0, 0, 59), 0);
            due("write(0, 59, 1)", y.write(0, 59, 1), -7);
            due("row(0, 0, 0)", y.row(0, 0, 0), 0);
            due("write(0, 0, 1)", y.write(0, 0, 1), -7);
            due("row(0, 0, 60)", y.row(0, 0, 60), 0);
            holds("of 60", y, 0, new int[60]);
            fill(y, 1, 0, 5, 1);
            due("row(0, 0, 2)", y.row(0, 0, 2), 0);
            holds("of another slot", y, 1, 5, 1);
        });
        test(49, "-2: there is no such SLOT or WIDTH (0 .. 3), or n is above 60;", () -> {
            LoftTree x = Tape.of(ROWS);
            fill(x, 0, 0, 5, 1);
            for (int slot : NO_SLOTS) {
                due("row(" + slot + ", 0, 1)", x.row(slot, 0, 1), -2);
                due("row(" + slot + ", 0, -1)", x.row(slot, 0, -1), -2);
            }
            for (int width : new int[] {-1, 4, 5, MIN, MAX}) {
                due("row(0, " + width + ", 1)", x.row(0, width, 1), -2);
                due("row(0, " + width + ", -1)", x.row(0, width, -1), -2);
            }
            for (int n : new int[] {61, 62, 1000, MAX}) {
                due("row(0, 0, " + n + ")", x.row(0, 0, n), -2);
            }
            holds("refused", x, 0, 5, 1);
            due("count(10)", x.count(10), 1);
        });
        test(49, "-3, and the SLOT stays: n is below 0.", () -> {
            LoftTree x = Tape.of(ROWS);
            fill(x, 0, 0, 5, 1, 6, 0);
            for (int n : new int[] {-1, -2, -60, MIN}) {
                due("row(0, 1, " + n + ")", x.row(0, 1, n), -3);
                due("row(1, 1, " + n + ")", x.row(1, 1, n), -3);
            }
            holds("refused", x, 0, 5, 1, 6, 0);
            due("write(0, 0, 257): its width stays", x.write(0, 0, 257), 0);
            holds("written", x, 0, 1, 1, 6, 0);
            due("plans(1): it has nothing still", x.plans(1), -6);
            due("count(10)", x.count(10), 1);
        });
    }

    private static void write() {
        test(50, "Number i of the SLOT's row is v, cut to its WIDTH: 0.", () -> {
            LoftTree x = Tape.of(ROWS);
            for (int width = 0; width <= 3; width++) {
                x.row(2, width, 6);
                long round = width < 3 ? 1L << (8 << width) : 0;
                due("write(2, 0, -1)", x.write(2, 0, -1), 0);
                due("write(2, 2, 2^n + 20)", x.write(2, 2, round + 20), 0);
                due("write(2, 3, 2^n + 1)", x.write(2, 3, round + 1), 0);
                due("write(2, 4, 2^n - 20)", x.write(2, 4, round - 20), 0);
                holds("of width " + width, x, 2, -1, 0, 20, 1, -20, 0);
                due("write(2, 5, 1)", x.write(2, 5, 1), 0);
                due("write(2, 4, -2^n)", x.write(2, 4, -round), 0);
                holds("of width " + width, x, 2, -1, 0, 20, 1, 0, 1);
                x.write(2, 0, Long.MIN_VALUE);
                due("plans(2) of the least of 8 bytes", x.plans(2), width < 3 ? 3 : 2);
                x.write(2, 0, Long.MAX_VALUE);
                due("plans(2) of the greatest of 8 bytes", x.plans(2), width < 3 ? 3 : 2);
            }
            // half of what a width can tell is below 0: not so much, but not to be bought either
            x.row(2, 0, 2);
            x.write(2, 0, 128);
            due("plans(2) of 128 in one byte", x.plans(2), 0);
            x.row(2, 3, 60);
            due("write(2, 59, 1)", x.write(2, 59, 1), 0);
            x.plans(2);
            due("planned(29, 1)", x.planned(29, 1), 1);
        });
        test(50, "-2: there is no such SLOT;", () -> {
            LoftTree x = new LoftTree();
            for (int slot : NO_SLOTS) {
                due("write(" + slot + ", 0, 1)", x.write(slot, 0, 1), -2);
                due("write(" + slot + ", -1, 1)", x.write(slot, -1, 1), -2);
            }
        });
        test(50, "-6: it has nothing;", () -> {
            LoftTree x = new LoftTree();
            x.row(0, 0, 1);
            for (int slot = 1; slot <= 3; slot++) {
                due("write(" + slot + ", 0, 1)", x.write(slot, 0, 1), -6);
                due("write(" + slot + ", -1, 1)", x.write(slot, -1, 1), -6);
            }
        });
        test(50, "-7: there is no such number.", () -> {
            LoftTree x = Tape.of(ROWS);
            fill(x, 0, 0, 5, 1);
            fill(x, 1, 0, 6, 1);
            for (int i : new int[] {-1, 2, 3, 59, 60, 61, MIN, MAX}) {
                due("write(0, " + i + ", 9)", x.write(0, i, 9), -7);
            }
            holds("refused", x, 0, 5, 1);
            holds("refused", x, 1, 6, 1);
            x.row(0, 0, 0);
            due("write(0, 0, 1) of a row of none", x.write(0, 0, 1), -7);
            x.row(0, 0, 60);
            due("write(0, 60, 1)", x.write(0, 60, 1), -7);
        });
    }

    private static void paste() {
        test(51, "So many numbers of a SLOT's row, from one on, are put to another one's (or its own), from one on, as they were: 0.", () -> {
            LoftTree x = Tape.of(ROWS);
            for (int width = 0; width <= 3; width++) {
                fill(x, 0, width, 1, 0, 2, 1, 3, 0);
                fill(x, 3, width, 9, 1, 8, 1);
                due("paste(0, 2, 3, 0, 2)", x.paste(0, 2, 3, 0, 2), 0);
                holds("pasted to", x, 3, 2, 1, 8, 1);
                holds("pasted from", x, 0, 1, 0, 2, 1, 3, 0);
                due("paste(0, 2, 3, 0, 4): to the end", x.paste(0, 2, 3, 0, 4), 0);
                holds("pasted to", x, 3, 2, 1, 3, 0);
                due("paste(3, 0, 0, 4, 2): to the last ones", x.paste(3, 0, 0, 4, 2), 0);
                holds("pasted to", x, 0, 1, 0, 2, 1, 2, 1);
            }
            // over itself, to either side
            fill(x, 1, 0, 1, 0, 0, 1, 1, 0, 1, 1);
            due("paste(1, 0, 1, 1, 7)", x.paste(1, 0, 1, 1, 7), 0);
            holds("pasted up", x, 1, 1, 1, 0, 0, 1, 1, 0, 1);
            due("paste(1, 1, 1, 0, 7)", x.paste(1, 1, 1, 0, 7), 0);
            holds("pasted down", x, 1, 1, 0, 0, 1, 1, 0, 1, 1);
            due("paste(1, 0, 1, 0, 8): onto itself", x.paste(1, 0, 1, 0, 8), 0);
            holds("pasted onto itself", x, 1, 1, 0, 0, 1, 1, 0, 1, 1);
            due("paste of none", x.paste(1, 0, 1, 4, 0), 0);
            due("paste of none, just behind the last", x.paste(1, 8, 1, 8, 0), 0);
            holds("pasted none", x, 1, 1, 0, 0, 1, 1, 0, 1, 1);
            x.row(2, 0, 0);
            due("paste to a row of none", x.paste(1, 0, 2, 0, 0), 0);
            LoftTree y = Tape.of(ROWS);
            y.row(0, 3, 60);
            y.row(1, 3, 60);
            y.write(0, 58, 20);
            y.write(0, 59, 1);
            due("paste of 60", y.paste(0, 0, 1, 0, 60), 0);
            y.plans(1);
            due("planned(29, 0)", y.planned(29, 0), 20);
            due("planned(29, 1)", y.planned(29, 1), 1);
        });
        test(51, "-2: there is no such SLOT;", () -> {
            LoftTree x = new LoftTree();
            x.row(0, 0, 4);
            for (int slot : NO_SLOTS) {
                due("paste(" + slot + ", 0, 0, 0, 1)", x.paste(slot, 0, 0, 0, 1), -2);
                due("paste(0, 0, " + slot + ", 0, 1)", x.paste(0, 0, slot, 0, 1), -2);
                due("paste(1, 0, " + slot + ", 0, 1): of nothing", x.paste(1, 0, slot, 0, 1), -2);
                due("paste(" + slot + ", -1, 1, 0, 1)", x.paste(slot, -1, 1, 0, 1), -2);
            }
        });
        test(51, "-6: one has nothing;", () -> {
            LoftTree x = new LoftTree();
            x.row(0, 0, 4);
            due("paste from nothing", x.paste(1, 0, 0, 0, 1), -6);
            due("paste to nothing", x.paste(0, 0, 1, 0, 1), -6);
            due("paste from nothing to nothing", x.paste(1, 0, 2, 0, 1), -6);
            due("paste from nothing to itself", x.paste(1, 0, 1, 0, 0), -6);
            due("paste to nothing, from below", x.paste(0, -1, 1, 0, 1), -6);
        });
        test(51, "-8: they are not of one WIDTH;", () -> {
            LoftTree x = Tape.of(ROWS);
            for (int width = 0; width <= 3; width++) {
                for (int other = 0; other <= 3; other++) {
                    fill(x, 0, width, 1, 1);
                    fill(x, 1, other, 2, 0);
                    due("paste from " + width + " to " + other, x.paste(0, 0, 1, 0, 2), width == other ? 0 : -8);
                    holds("of " + other, x, 1, width == other ? 1 : 2, width == other ? 1 : 0);
                }
            }
            x.row(0, 0, 2);
            due("paste of none", x.paste(0, 0, 1, 0, 0), -8);
            due("paste from below", x.paste(0, -1, 1, 0, 1), -8);
        });
        test(51, "-7, and nothing happens: some are beyond their rows, or a place or n is below 0.", () -> {
            LoftTree x = Tape.of(ROWS);
            fill(x, 0, 0, 1, 0, 2, 1, 3, 0);
            fill(x, 1, 0, 9, 1, 8, 1);
            int[][] wrong = {{0, 0, 5}, {0, 1, 4}, {3, 0, 4}, {6, 0, 1}, {0, 4, 1}, {7, 0, 0}, {0, 5, 0}, {-1, 0, 1}, {0, -1, 1}, {0, 0, -1}, {-1, 0, 0}, {0, -1, 0},
                {1, 1, MAX}, {MAX, 0, 1}, {0, MAX, 1}, {MAX, MAX, MAX}, {MIN, 0, 1}, {0, MIN, 1}, {0, 0, MIN}, {MAX, 0, MIN}, {2, 0, 60}};
            for (int[] w : wrong) {
                due("paste(0, " + w[0] + ", 1, " + w[1] + ", " + w[2] + ")", x.paste(0, w[0], 1, w[1], w[2]), -7);
            }
            due("paste to itself beyond", x.paste(0, 0, 0, 1, 6), -7);
            holds("refused", x, 0, 1, 0, 2, 1, 3, 0);
            holds("refused", x, 1, 9, 1, 8, 1);
        });
    }
}
