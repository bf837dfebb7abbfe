/** Promises 1 to 6: a new object, the tape, the text and its forks. */
final class SentencesOfText extends Sentences {
    private static final int BLANKS = 0x20202020;

    private SentencesOfText() {
    }

    static void tell() {
        newObject();
        feed();
        end();
        text();
        fault();
        fork();
    }

    private static void newObject() {
        test(1, "No TEXT: one FORK, 0,", () -> {
            LoftTree x = new LoftTree();
            due("count(0)", x.count(0), 1);
            due("fork(0, 0)", x.fork(0, 0), NONE);
            due("fork(0, 7)", x.fork(0, 7), 0);
            due("fork(0, 8)", x.fork(0, 8), NOTHING);
            due("fork(1, 0)", x.fork(1, 0), NOTHING);
            due("now(0)", x.now(0), 0);
            due("costTo(0): it is an end", x.costTo(0), 0);
            due("run(9)", x.run(9), 0);
        });
        test(1, "at which nothing can be bought and nothing is needed;", () -> {
            LoftTree x = new LoftTree();
            due("fork(0, 3)", x.fork(0, 3), 0);
            due("fork(0, 5)", x.fork(0, 5), 0);
            due("plan(0, 1, 0)", x.plan(0, 1, 0), false);
            due("judge()", x.judge(), NONE);
            due("steps(): nothing is done, or it is widened", x.steps(), 2);
        });
        test(1, "all numbers 0.", () -> {
            LoftTree x = new LoftTree();
            for (int what = 1; what <= 7; what++) {
                due("fork(0, " + what + ")", x.fork(0, what), 0);
            }
            for (int what = 2; what <= 10; what++) {
                due("count(" + what + ")", x.count(what), 0);
            }
            for (int what = 0; what <= 4; what++) {
                due("now(" + what + ")", x.now(what), 0);
            }
            for (int what = 0; what <= 3; what++) {
                due("planned(0, " + what + ")", x.planned(0, what), 0);
            }
            for (int count = 0; count <= 2; count++) {
                due("best(" + count + ")", x.best(count), 0);
                due("cost(" + count + ")", x.cost(count), 0);
            }
        });
    }

    private static void feed() {
        test(2, "Twenty bytes come behind the TAPE, four of each number, the highest first: how many it has;", () -> {
            // a byte that is no token is the text's fault where it stands
            for (int place = 0; place < 40; place++) {
                for (int sign : new int[] {0x40, 0xff, 0x80}) {
                    LoftTree x = new LoftTree();
                    int[] fours = new int[10];
                    java.util.Arrays.fill(fours, BLANKS);
                    int shift = 24 - place % 4 * 8;
                    fours[place / 4] = BLANKS & ~(0xff << shift) | sign << shift;
                    due("feed", x.feed(fours[0], fours[1], fours[2], fours[3], fours[4]), 20);
                    due("feed", x.feed(fours[5], fours[6], fours[7], fours[8], fours[9]), 40);
                    x.text();
                    due("fault(0)", x.fault(0), 1);
                    due("fault(1)", x.fault(1), place);
                }
            }
        });
        test(2, "NONE, and none come, if it would have more than 1,800.", () -> {
            LoftTree x = new LoftTree();
            for (int n = 20; n <= 1800; n += 20) {
                due("feed", x.feed(BLANKS, BLANKS, BLANKS, BLANKS, BLANKS), n);
            }
            due("feed to 1,820", x.feed(0, 0, 0, 0, 0), NONE);
            due("count(2)", x.count(2), 1800);
            x.end(1781);
            due("feed to 1,801", x.feed(0, 0, 0, 0, 0), NONE);
            due("count(2)", x.count(2), 1781);
            x.text();
            due("fault(1): blanks alone", x.fault(1), 1781);
            LoftTree y = new LoftTree();
            for (int n = 20; n <= 1800; n += 20) {
                y.feed(BLANKS, BLANKS, BLANKS, BLANKS, BLANKS);
            }
            y.end(1780);
            due("feed to 1,800", y.feed(BLANKS, BLANKS, BLANKS, BLANKS, BLANKS - 0x20 + 0x40), 1800);
            due("feed to 1,820", y.feed(0, 0, 0, 0, 0), NONE);
            y.text();
            due("fault(1): the last byte", y.fault(1), 1799);
            due("feed to an empty one", y.feed(0, 0, 0, 0, 0), 20);
            // 1,800 bytes, the last one being of each kind of token
            String blanks = " ".repeat(1799 - ROOT.length());
            fails(ROOT + blanks + "a", 1, 1799);
            fails(ROOT + blanks + "7", 1, 1799);
            fails(ROOT + blanks + ";", 1, 1799);
            reads(ROOT + blanks + " ", 1);
            reads(" " + blanks + ROOT, 1);
        });
    }

    private static void end() {
        test(3, "The TAPE has its first n bytes alone: n;", () -> {
            LoftTree x = new LoftTree();
            due("end(0) of none", x.end(0), 0);
            Tape.feed(x, ROOT + "@@@@@@");
            due("end(40): all", x.end(40), 40);
            due("end(34)", x.end(34), 34);
            due("count(2)", x.count(2), 34);
            due("feed comes behind that", x.feed(BLANKS, BLANKS, BLANKS, BLANKS, BLANKS), 54);
            due("text(): the others are gone", x.text(), 1);
            // what is cut off is no part of a word or a number
            Tape.feed(x, "startle");
            x.end(5);
            x.text();
            due("fault(1) of start", x.fault(1), 5);
            Tape.feed(x, "start 123");
            x.end(7);
            x.text();
            due("fault(0) of start 1", x.fault(0), 1);
            due("fault(1) of start 1", x.fault(1), 7);
            Tape.feed(x, ROOT);
            due("end(0)", x.end(0), 0);
            due("count(2)", x.count(2), 0);
            due("text()", x.text(), -4);
            due("fault(1)", x.fault(1), 0);
        });
        test(3, "NONE, and nothing happens, if it has not so many, or n is below 0.", () -> {
            LoftTree x = new LoftTree();
            due("end(1) of none", x.end(1), NONE);
            Tape.feed(x, ROOT);
            for (int n : new int[] {35, 36, 40, 1800, 1801, MAX, -1, -34, MIN}) {
                due("end(" + n + ")", x.end(n), NONE);
                due("count(2)", x.count(2), 34);
            }
            due("text()", x.text(), 1);
            due("end(34) of an empty one", x.end(34), NONE);
            Tape.feed(x, ROOT);
            x.end(20);
            due("end(21): what is cut off does not come back", x.end(21), NONE);
        });
    }

    private static void text() {
        test(4, "The TAPE (empty then) is the TEXT: how many FORKS;", () -> {
            LoftTree x = new LoftTree();
            due("text() of HAY", Tape.tell(x, HAY), 3);
            due("count(2)", x.count(2), 0);
            due("text() of nothing", x.text(), -4);
            due("text() of a chain", Tape.tell(x, CHAIN), 5);
            due("text() of 40", Tape.tell(x, forks(40)), 40);
            due("text() of 1", Tape.tell(x, ROOT), 1);
            due("fork(1, 0): of the last text there is none", x.fork(1, 0), NOTHING);
            due("fork(0, 7)", x.fork(0, 7), 0);
            due("count(3)", x.count(3), 0);
            due("text() with a fault", Tape.tell(x, ROOT + "@"), -4);
            due("count(2)", x.count(2), 0);
        });
        test(4, "NOW is FORK 0 with what is told,", () -> {
            LoftTree x = Tape.of(HAY);
            goBy(x, 2, 1, 1);
            due("now(4)", x.now(4), 1);
            Tape.tell(x, HAY);
            int[] now = {0, 2, 0, 0, 0};
            for (int what = 0; what <= 4; what++) {
                due("now(" + what + ")", x.now(what), now[what]);
            }
            Tape.tell(x, CHAIN);
            due("now(1)", x.now(1), 3);
            LoftTree y = Tape.of(HAY);
            due("best(0)", y.best(0), 9 * E8);
            due("best(1)", y.best(1), 9);
            due("best(2)", y.best(2), 4);
            due("reach(1, 0)", y.reach(1, 0), 63);
            Tape.tell(y, CHAIN);
            due("best(0) is the new one's", y.best(0), 6 * E8);
            due("best(1) is the new one's", y.best(1), 6);
            due("best(2) is the new one's", y.best(2), 0);
            due("reach(1, 0) is the new one's", y.reach(1, 0), 1023);
        });
        test(4, "the PLAN does nothing anywhere.", () -> {
            LoftTree x = hayPlanned();
            x.plan(2, 3, 1);
            Tape.tell(x, HAY);
            for (int f = 0; f <= 2; f++) {
                due("planned(" + f + ", 0)", x.planned(f, 0), 0);
                due("planned(" + f + ", 1)", x.planned(f, 1), 0);
            }
        });
        test(4, "-4: a FAULT (all stays).", () -> {
            for (String faulty : new String[] {"@", "start 21;", ROOT + ROOT, fan(ROOT, 99), ""}) {
                LoftTree x = hayPlanned();
                x.set(2, 0, 9);
                x.move(0, 0, 1, 5);
                x.keep(1);
                x.row(2, 1, 3);
                x.run(0);
                x.go(1);
                due("text() of " + faulty, Tape.tell(x, faulty), -4);
                int[] now = {2, 2, 0, 5, 1};
                for (int what = 0; what <= 4; what++) {
                    due("now(" + what + ")", x.now(what), now[what]);
                }
                int[] counts = {3, 2, 0, 1, 2, 5, 10, 7, 1, 2, 1};
                for (int what = 0; what <= 10; what++) {
                    due("count(" + what + ")", x.count(what), counts[what]);
                }
                due("fork(2, 1)", x.fork(2, 1), 55);
                due("fork(2, 2)", x.fork(2, 2), 9);
                due("planned(0, 0)", x.planned(0, 0), 1);
                due("planned(2, 0)", x.planned(2, 0), 2);
                due("best(0): 1 is bought for 9", x.best(0), 9 * E6);
                due("ran()", x.ran(), 7);
                due("back(1)", x.back(1), 0);
                due("now(0)", x.now(0), 0);
            }
        });
    }

    private static void fault() {
        test(5, "Of the latest text(), what 0: its FAULT, 0 without,", () -> {
            LoftTree x = new LoftTree();
            due("fault(0) ahead of any", x.fault(0), 0);
            String[] texts = {"@", "start 21;", ROOT + ROOT, fan(ROOT, 99), ROOT};
            for (int i = 0; i < texts.length; i++) {
                Tape.tell(x, texts[i]);
                due("fault(0) of " + texts[i], x.fault(0), i < 4 ? i + 1 : 0);
            }
            Tape.tell(x, "@");
            Tape.feed(x, ROOT);
            due("fault(0), only fed since", x.fault(0), 1);
            x.keep(0);
            x.back(0);
            due("fault(0), gone back since", x.fault(0), 1);
        });
        test(5, "1: its place (NONE without).", () -> {
            LoftTree x = new LoftTree();
            String[] texts = {"  @", "start 21;", ROOT + ROOT, fan(ROOT, 99), ROOT, "", ROOT};
            int[] places = {2, 6, 34, 34, NONE, 0, NONE};
            for (int i = 0; i < texts.length; i++) {
                Tape.tell(x, texts[i]);
                due("fault(1) of " + texts[i], x.fault(1), places[i]);
            }
        });
        test(5, "NONE for another what, and ahead of any (what 1).", () -> {
            LoftTree x = new LoftTree();
            due("fault(1) ahead of any", x.fault(1), NONE);
            for (int what : NO_FLAGS) {
                due("fault(" + what + ") ahead of any", x.fault(what), NONE);
            }
            Tape.tell(x, "  @");
            for (int what : NO_FLAGS) {
                due("fault(" + what + ")", x.fault(what), NONE);
            }
        });
    }

    private static void fork() {
        test(6, "Of FORK f, what 0: the one that it is under (NONE),", () -> {
            LoftTree x = Tape.of(CROSSED);
            int[] under = {NONE, 0, 0, 2, 1};
            for (int f = 0; f <= 4; f++) {
                due("fork(" + f + ", 0)", x.fork(f, 0), under[f]);
            }
            due("fork(39, 0) of 40", Tape.of(forks(40)).fork(39, 0), 7);
        });
        test(6, "1: chance, 2: price, 3: most, 4: sell, 5: need, 6: how far from FORK 0, 7: FORKS under it,", () -> {
            LoftTree x = Tape.of("root price 99 most 20 sell 98 need 19;fork under 0 chance 1 price 1 most 2 sell 3 need 4;"
                + "fork under 0 chance 99 price 5 most 6 sell 7 need 8;fork under 2 chance 100 price 9 most 10 sell 11 need 12;");
            int[][] told = {{0, 99, 20, 98, 19, 0, 2}, {1, 1, 2, 3, 4, 1, 0}, {99, 5, 6, 7, 8, 1, 1}, {100, 9, 10, 11, 12, 2, 0}};
            for (int f = 0; f <= 3; f++) {
                for (int what = 1; what <= 7; what++) {
                    due("fork(" + f + ", " + what + ")", x.fork(f, what), told[f][what - 1]);
                }
            }
            due("fork(4, 6) of a chain", Tape.of(CHAIN).fork(4, 6), 4);
            due("fork(0, 7) of 40", Tape.of(forks(40)).fork(0, 7), 5);
        });
        test(6, "8 + i: the i-th of these.", () -> {
            LoftTree x = Tape.of(forks(40));
            for (int i = 0; i < 5; i++) {
                due("fork(0, 8 + " + i + ")", x.fork(0, 8 + i), 1 + i);
                due("fork(6, 8 + " + i + ")", x.fork(6, 8 + i), 31 + i);
                due("fork(7, 8 + " + i + ")", x.fork(7, 8 + i), i < 4 ? 36 + i : NOTHING);
            }
            LoftTree y = Tape.of(CROSSED);
            due("fork(1, 8)", y.fork(1, 8), 4);
            due("fork(2, 8)", y.fork(2, 8), 3);
        });
        test(6, "NOTHING (-2,000,000,000) for others.", () -> {
            LoftTree x = Tape.of(HAY);
            for (int f : new int[] {-1, 3, 4, 39, 40, MIN, MAX}) {
                for (int what = 0; what <= 8; what++) {
                    due("fork(" + f + ", " + what + ")", x.fork(f, what), -2000000000);
                }
            }
            for (int what : new int[] {-1, 10, 11, 12, 13, MIN, MIN + 7, MIN + 8, MAX}) {
                due("fork(0, " + what + ")", x.fork(0, what), -2000000000);
            }
            due("fork(1, 8): none is under it", x.fork(1, 8), -2000000000);
            due("fork(0, 13) of five", Tape.of(forks(40)).fork(0, 13), -2000000000);
        });
    }
}
