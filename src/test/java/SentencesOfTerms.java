/** Terms I: the text, its tokens and its faults; and the slots. */
final class SentencesOfTerms extends Sentences {
    private static final String[] FIRST_FIVE = {"start 1;", "cap 1;", "wide 1 cost 1;", "hold 1;", "left 1;"};

    private SentencesOfTerms() {
    }

    static void tell() {
        lines();
        order();
        bounds();
        tokens();
        faults();
        slots();
    }

    private static String join(String[] tokens, int from, int to) {
        return String.join(" ", java.util.Arrays.copyOfRange(tokens, from, to));
    }

    /** A word of which any letter is another one can't stand there. */
    private static void misspelt(String ahead, String token, String behind) {
        for (int i = 0; i < token.length() && Character.isLetter(token.charAt(i)); i++) {
            fails(ahead + token.substring(0, i) + "z" + token.substring(i + 1) + " " + behind, 1, ahead.length());
        }
    }

    private static void lines() {
        test(TERMS, "TEXT: {LINE}.", () -> {
            fails("", 1, 0);
            LoftTree x = reads("left 1;hold 2;wide 3 cost 4;cap 5;start 6;" + ROOT, 1);
            int[] told = {6, 5, 3, 4, 2, 1};
            for (int i = 0; i < told.length; i++) {
                due("count(" + (4 + i) + ")", x.count(4 + i), told[i]);
            }
        });
        test(TERMS, "LINE: start N ; | cap N ; | wide N cost N ; | hold N ; | left N ; | root DOES ; | fork under F chance N DOES ;.", () -> {
            String[] tokens = ("start 1 ; cap 2 ; wide 3 cost 4 ; hold 5 ; left 6 ; root price 7 most 8 sell 9 need 1 ; "
                + "fork under 0 chance 100 price 1 most 2 sell 3 need 4 ;").split(" ");
            int n = tokens.length;
            reads(join(tokens, 0, n), 2);
            for (int i = 0; i < n; i++) {
                String ahead = i == 0 ? "" : join(tokens, 0, i) + " ";
                // without one the next one can't stand there; told twice the second one can't
                fails(i == n - 1 ? ahead.trim() : ahead + join(tokens, i + 1, n), 1, i == n - 1 ? ahead.length() - 1 : ahead.length());
                fails(ahead + tokens[i] + " " + join(tokens, i, n), 1, ahead.length() + tokens[i].length() + 1);
                fails(ahead + "end " + join(tokens, i + 1, n), 1, ahead.length());
                misspelt(ahead, tokens[i], join(tokens, i + 1, n));
            }
        });
        test(TERMS, "DOES: price N most N sell N need N.", () -> {
            reads("root price 1 most 2 sell 3 need 4;", 1);
            fails("root most 2 price 1 sell 3 need 4;", 1, 5);
            fails("root price 1 sell 3 most 2 need 4;", 1, 13);
            fails("root price 1 most 2 need 4 sell 3;", 1, 20);
            fails("root price 1 most 2 sell 3;", 1, 26);
            fails("root;", 1, 4);
            LoftTree x = Tape.of("root price 1 most 2 sell 3 need 4;");
            for (int what = 2; what <= 5; what++) {
                due("fork(0, " + what + ")", x.fork(0, what), what - 1);
            }
        });
    }

    private static void order() {
        test(TERMS, "The first five once at most, each ahead of root;", () -> {
            for (String line : FIRST_FIVE) {
                reads(line + ROOT, 1);
                fails(line + line + ROOT, 3, line.length());
                fails(ROOT + line, 1, 34);
                fails(line + ROOT + line, 1, line.length() + 34);
            }
        });
        test(TERMS, "root once;", () -> {
            reads(ROOT, 1);
            fails("start 1;", 1, 8);
            fails(ROOT + ROOT, 3, 34);
            fails(ROOT + "fork under 0 chance 100 " + BARE + "root", 3, 34 + 53);
        });
        test(TERMS, "FORKS behind it, numbered as they stand (root 0).", () -> {
            fails("fork under 0 chance 100 " + BARE + ROOT, 1, 0);
            LoftTree x = reads(CROSSED, 5);
            int[] under = {-1, 0, 0, 2, 1};
            for (int f = 0; f < under.length; f++) {
                due("fork(" + f + ", 0)", x.fork(f, 0), under[f]);
            }
        });
        test(TERMS, "F: a FORK told ahead, that is not four away from FORK 0 and has fewer than five under it.", () -> {
            fails(ROOT + "fork under 1 chance 100 " + BARE, 2, 45);
            fails(ROOT + "fork under 2 chance 100 " + BARE, 2, 45);
            String chain = ROOT;
            for (int f = 0; f < 4; f++) {
                chain += "fork under " + f + " chance 100 " + BARE;
            }
            due("fork(4, 6)", reads(chain, 5).fork(4, 6), 4);
            fails(chain + "fork under 4 chance 100 " + BARE, 2, chain.length() + 11);
            reads(fan(ROOT, 60, 10, 10, 20), 5);
            String five = fan(ROOT, 60, 10, 10, 10, 10);
            due("fork(0, 7)", reads(five, 6).fork(0, 7), 5);
            fails(five + "fork under 0 chance 10 " + BARE, 2, five.length() + 11);
        });
        test(TERMS, "What is not told is 0.", () -> {
            LoftTree x = Tape.of(HAY);
            Tape.tell(x, ROOT);
            for (int what = 4; what <= 9; what++) {
                due("count(" + what + ")", x.count(what), 0);
            }
            due("now(1)", x.now(1), 0);
            due("fork(0, 1)", x.fork(0, 1), 0);
        });
    }

    /** The text is ahead, a number and behind; the number is read from least to most and refused beyond. */
    private static void bounded(String ahead, String behind, int least, int most, java.util.function.ToIntFunction<LoftTree> read) {
        for (int v : new int[] {least, least + 1, most - 1, most}) {
            LoftTree x = new LoftTree();
            due("text() of " + ahead + v + behind, Tape.tell(x, ahead + v + behind) > 0, true);
            due("of " + ahead + v + behind, read.applyAsInt(x), v);
        }
        LoftTree y = new LoftTree();
        due("text() of 000" + most, Tape.tell(y, ahead + "000" + most + behind) > 0, true);
        due("of 000" + most, read.applyAsInt(y), most);
        // the last three come to 5 in 32 and 64 bits
        String[] beyond = {"" + (most + 1), "" + most + "0", "4294967301", "18446744073709551621", "340282366920938463463374607431768211461"};
        for (String v : beyond) {
            fails(ahead + v + behind, 2, ahead.length());
        }
        if (least > 0) {
            fails(ahead + (least - 1) + behind, 2, ahead.length());
        }
        fails(ahead + "-1" + behind, 1, ahead.length());
    }

    /** What is asked of 40 forks that want nothing. */
    private static void askAll(LoftTree x) {
        due("fork(35, 11)", x.fork(35, 11), 39);
        due("fork(39, 6)", x.fork(39, 6), 4);
        for (int count = 0; count <= 2; count++) {
            due("best(" + count + ")", x.best(count), 0);
            due("ties(" + count + ")", x.ties(count), 2);
            due("cost(" + count + ")", x.cost(count), 0);
            due("take(" + count + ")", x.take(count), 0);
        }
        due("judge()", x.judge(), NONE);
        due("within(100)", x.within(100), 0);
        due("reach(39, 0)", x.reach(39, 0), 1);
        due("dead(39, 1)", x.dead(39, 1), 0);
        due("worth(39, 20, 1)", x.worth(39, 20, 1), 0);
        due("unit(39)", x.unit(39), 0);
        due("joined()", x.joined(), 9);
        due("kinds()", x.kinds(), 6);
        due("same(38, 39)", x.same(38, 39), 1);
        due("costTo(39)", x.costTo(39), 0);
        due("gap(39)", x.gap(39), 0);
        due("know()", x.know(), 0);
        due("sooner(35)", x.sooner(35), 0);
        due("middle()", x.middle(), 0);
        due("late(0)", x.late(0), 0);
        due("coin()", x.coin(), 0);
        due("ruin(0)", x.ruin(0), 0);
        due("tail(100)", x.tail(100), 0);
        due("lose(1)", x.lose(1), 0);
        due("edge(35, 0, 3)", x.edge(35, 0, 3), NONE);
        due("rise(39)", x.rise(39), NONE);
        due("run(8) comes to an end", x.costTo(x.run(8)), 0);
        due("count(1)", x.count(1), 32);
        due("count(3)", x.count(3), 4);
    }

    private static void bounds() {
        test(TERMS, "start, cap, wide, most, need 0 .. 20, price, sell, hold, left 0 .. 99, cost 0 .. 999, chance 1 .. 100.", () -> {
            bounded("start ", ";" + ROOT, 0, 20, x -> x.count(4));
            bounded("cap ", ";" + ROOT, 0, 20, x -> x.count(5));
            bounded("wide ", " cost 0;" + ROOT, 0, 20, x -> x.count(6));
            bounded("wide 0 cost ", ";" + ROOT, 0, 999, x -> x.count(7));
            bounded("hold ", ";" + ROOT, 0, 99, x -> x.count(8));
            bounded("left ", ";" + ROOT, 0, 99, x -> x.count(9));
            for (String head : new String[] {"root", ROOT + "fork under 0 chance 100"}) {
                int f = head.equals("root") ? 0 : 1;
                bounded(head + " price ", " most 0 sell 0 need 0;", 0, 99, x -> x.fork(f, 2));
                bounded(head + " price 0 most ", " sell 0 need 0;", 0, 20, x -> x.fork(f, 3));
                bounded(head + " price 0 most 0 sell ", " need 0;", 0, 99, x -> x.fork(f, 4));
                bounded(head + " price 0 most 0 sell 0 need ", ";", 0, 20, x -> x.fork(f, 5));
            }
            due("fork(1, 1)", reads(fan(ROOT, 1, 99), 3).fork(1, 1), 1);
            due("fork(1, 1)", reads(fan(ROOT, 100), 2).fork(1, 1), 100);
            for (int v : new int[] {0, 101, 200, 1000}) {
                fails(fan(ROOT, v), 2, 54);
            }
            fails(ROOT + "fork under 0 chance 4294967396 " + BARE, 2, 54);
            fails(ROOT + "fork under 0 chance 18446744073709551716 " + BARE, 2, 54);
        });
        test(TERMS, "40 FORKS at most.", () -> {
            reads(forks(39), 39);
            due("count(0)", reads(forks(40), 40).count(0), 40);
            fails(forks(41), 3, forks(41).lastIndexOf("fork"));
            LoftTree x = reads(forty(), 40);
            askAll(x);
            x.keep(0);
            Tape.tell(x, ROOT);
            x.back(0);
            askAll(x);
            due("move(35, 0, 3, 25)", x.move(35, 0, 3, 25), 50);
            int[] way = {5, 30, 35, 39};
            for (int i = 0; i < 4; i++) {
                due("go to " + way[i], x.go(i < 3 ? 4 : 3), way[i]);
            }
            due("best(0) at fork 39", x.best(0), 0);
        });
        test(TERMS, "An END: a FORK with none under it.", () -> {
            due("count(1) of a new one", new LoftTree().count(1), 1);
            due("costTo(0) of a new one", new LoftTree().costTo(0), 0);
            LoftTree x = Tape.of(CROSSED);
            due("count(1)", x.count(1), 2);
            for (int f = 0; f <= 4; f++) {
                due("costTo(" + f + ")", x.costTo(f), f < 3 ? NOTHING : 0);
            }
            due("count(1) of 40", Tape.of(forks(40)).count(1), 32);
        });
    }

    private static void tokens() {
        test(TERMS, "TOKENS, blanks (32, 10) aside, the longest: words (a .. z), numbers (digits), the sign ; .", () -> {
            for (int sign = 0; sign <= 255; sign++) {
                boolean isBlank = sign == 32 || sign == 10;
                boolean isLetter = sign >= 'a' && sign <= 'z';
                boolean isDigit = sign >= '0' && sign <= '9';
                String behindWord = "root" + (char) sign + "price0most0sell0need0;";
                String behindNumber = "root price0most0sell0need1" + (char) sign + ";";
                if (isBlank) {
                    reads(behindWord, 1);
                    reads((char) sign + ROOT + (char) sign, 1);
                } else {
                    fails(behindWord, 1, isLetter ? 0 : 4);
                }
                if (isBlank || isDigit) {
                    due("fork(0, 5)", reads(behindNumber, 1).fork(0, 5), isBlank ? 1 : 10 + sign - '0');
                } else {
                    fails(behindNumber, 1, sign == ';' ? 27 : 26);
                }
            }
            reads("\n\n start\n5\n ;  root   price 0most0 sell0need 0 ;\n \n", 1);
            fails("st art 5;" + ROOT, 1, 0);
            fails("start 1 5;" + ROOT, 1, 8);
        });
    }

    private static void faults() {
        test(TERMS, "FAULTS, the first by its place (a TOKEN's first byte; the end's), of one place the least:", () -> {
            fails("start 21;cap @;", 2, 6);
            fails("start @;cap 21;", 1, 6);
            fails("start 1;start 21;@", 3, 8);
            fails("hold 100;hold 100;", 2, 5);
            fails(" \n start  0021;" + ROOT, 2, 10);
            fails(" \n start  21 21;" + ROOT, 2, 10);
            fails("  startle 1;" + ROOT, 1, 2);
            fails("start 1; \n ", 1, 11);
            fails("root price 0 most 0 sell 0 need 0 ", 1, 34);
            // 1 and 2, 1 and 3 of one place
            fails("start 1 999;" + ROOT, 1, 8);
            fails("start 1;" + ROOT + "start 1;", 1, 42);
            fails("root root " + BARE, 1, 5);
            fails(forks(40) + "root fork", 3, forks(40).length());
        });
        test(TERMS, "1 a TOKEN that is none, or can't stand there (the end without a root).", () -> {
            fails("@", 1, 0);
            fails(ROOT + "@", 1, 34);
            fails(ROOT + (char) 255, 1, 34);
            fails(ROOT + (char) 0, 1, 34);
            fails("starts 1;" + ROOT, 1, 0);
            fails("1;" + ROOT, 1, 0);
            fails(";" + ROOT, 1, 0);
            fails("start cap;" + ROOT, 1, 6);
            fails("start 1 cap 2;" + ROOT, 1, 8);
            fails(ROOT + ";", 1, 34);
            fails("start 1;cap 2;", 1, 14);
            fails("   ", 1, 3);
            fails(ROOT + "fork", 1, 38);
        });
        test(TERMS, "2 a number out of its bounds; an F not as said.", () -> {
            fails("cap 21;" + ROOT, 2, 4);
            fails("wide 20 cost 1000;" + ROOT, 2, 13);
            fails(ROOT + "fork under 40 chance 100 " + BARE, 2, 45);
            fails(ROOT + "fork under 4294967296 chance 100 " + BARE, 2, 45);
            fails(ROOT + "fork under 18446744073709551616 chance 100 " + BARE, 2, 45);
            reads(ROOT + "fork under 0000 chance 100 " + BARE, 2);
        });
        test(TERMS, "3 told already (of the first five, root; at the word); a 41st FORK (at its word).", () -> {
            for (String line : FIRST_FIVE) {
                fails(line + " " + line.substring(0, line.indexOf(' ')), 3, line.length() + 1);
            }
            fails(ROOT + " root", 3, 35);
            fails(forks(40) + " fork", 3, forks(40).length() + 1);
            fails(forks(40) + "fork under 99 chance 0", 3, forks(40).length());
        });
        test(TERMS, "If there is none of these: 4 the chances under a FORK that has some are not 100 together: "
            + "at the word fork of the first one under the least such FORK.", () -> {
            reads(ROOT, 1);
            reads(fan(ROOT, 50, 50), 3);
            fails(fan(ROOT, 50, 49), 4, 34);
            fails(fan(ROOT, 50, 51), 4, 34);
            fails(fan(ROOT, 100, 100), 4, 34);
            fails(fan(ROOT, 99), 4, 34);
            fails(fan(ROOT, 99) + "@", 1, 34 + 52);
            fails(fan(ROOT, 99) + "root", 3, 34 + 52);
            fails(fan(ROOT, 99) + "fork under 7", 2, 34 + 52 + 11);
            String two = fan(ROOT, 50, 50);
            String under2 = "  fork under 2 chance 9 " + BARE;
            String under1 = " fork under 1 chance 9 " + BARE;
            fails(two + under2, 4, two.length() + 2);
            fails(two + under2 + under1 + under1, 4, two.length() + under2.length() + 1);
            fails(fan(ROOT, 50, 49) + under2 + under1, 4, 34);
        });
    }

    private static void slots() {
        test(TERMS, "SLOTS 0 .. 3 have rows of numbers of 1, 2, 4 or 8 bytes (WIDTH 0 .. 3), at most 60, or nothing.", () -> {
            LoftTree x = Tape.of("cap 20;wide 20 cost 0;root price 0 most 20 sell 0 need 0;");
            for (int slot = 0; slot <= 3; slot++) {
                due("write(" + slot + ", 0, 1)", x.write(slot, 0, 1), -6);
                due("row(" + slot + ", " + slot + ", 60)", x.row(slot, slot, 60), 0);
                due("row(" + slot + ", " + slot + ", 61)", x.row(slot, slot, 61), -2);
                due("write(" + slot + ", 59, 1)", x.write(slot, 59, 1), 0);
                due("write(" + slot + ", 60, 1)", x.write(slot, 60, 1), -7);
            }
            due("row(4, 0, 1)", x.row(4, 0, 1), -2);
            due("row(-1, 0, 1)", x.row(-1, 0, 1), -2);
            due("row(0, 4, 1)", x.row(0, 4, 1), -2);
            due("row(0, -1, 1)", x.row(0, -1, 1), -2);
            // 2 to the 8, 16 and 32 are nothing in 1, 2 and 4 bytes, but something in more
            long[] powers = {1L << 8, 1L << 16, 1L << 32};
            for (int width = 0; width <= 3; width++) {
                for (int p = 0; p < 3; p++) {
                    x.row(0, width, 2);
                    x.write(0, 0, powers[p] + 7);
                    due("plans(0) of 2^" + (8 << p) + " + 7, width " + width, x.plans(0), width <= p ? 1 : 0);
                }
            }
        });
    }
}
