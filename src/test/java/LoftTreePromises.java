/**
 * For each promise ordinary inputs, the edges that the document names, and wrong inputs. The numbers were
 * counted by hand from the document.
 *
 * HAY, worked out: at fork 0 (stock 2) a stock of t = 0 .. 5 can be left, for -1, 1, 5, 9, 13, 17 (x = t - 1), and
 * for 7 more each if the loft is widened. From there fork 1 costs at least 6, 4, 2, 0, -1, -2 and fork 2 at least
 * 24, 16, 8, 0, -1, -2. Together to fork 1: 5, 5, 7, 9, 12, 15; to fork 2: 23, 17, 13, 9, 12, 15.
 */
public final class LoftTreePromises {
    private static final int NOTHING = -2000000000;
    private static final long NEVER = Long.MIN_VALUE;
    private static final long E6 = 1000000L;
    private static final long E8 = 100000000L;

    private static final String HAY = "start 2;cap 5;wide 10 cost 7;hold 1;left 2;root price 3 most 4 sell 1 need 1;"
        + "fork under 0 chance 50 price 2 most 3 sell 1 need 3;fork under 0 chance 50 price 8 most 3 sell 1 need 3;";
    /** Nothing is lawful: fork 2 needs more than can be there. */
    private static final String LOST = "cap 3;root price 1 most 3 sell 0 need 0;"
        + "fork under 0 chance 50 price 1 most 9 sell 0 need 1;fork under 0 chance 50 price 1 most 2 sell 0 need 9;";
    /** A way of forks under one another: 0, 1, 2, 3, 4. */
    private static final String CHAIN = "start 3;cap 9;hold 1;root price 5 most 9 sell 0 need 1;"
        + "fork under 0 chance 100 price 4 most 9 sell 0 need 1;fork under 1 chance 100 price 3 most 9 sell 0 need 1;"
        + "fork under 2 chance 100 price 2 most 9 sell 0 need 1;fork under 3 chance 100 price 1 most 9 sell 0 need 1;";
    private static final String BARE = "price 0 most 0 sell 0 need 0;";

    private static int wrong = 0;
    private static int promise = 0;

    private static void due(String call, long got, long want) {
        if (got != want) {
            wrong++;
            System.out.println("promise " + promise + ": " + call + " answered " + got + ", due is " + want);
        }
    }

    private static void due(String call, boolean got, boolean want) {
        due(call, got ? 1 : 0, want ? 1 : 0);
    }

    private static void fails(String text, int fault, int place) {
        LoftTree x = new LoftTree();
        due("text() of " + text, Tape.tell(x, text), -4);
        due("fault(0) of " + text, x.fault(0), fault);
        due("fault(1) of " + text, x.fault(1), place);
    }

    private static void reads(String text, int forks) {
        LoftTree x = new LoftTree();
        due("text() of " + text, Tape.tell(x, text), forks);
        due("fault(0) of " + text, x.fault(0), 0);
        due("fault(1) of " + text, x.fault(1), -1);
    }

    public static void main(String[] args) {
        promise = 1;
        newObject();
        promise = 2;
        feed();
        promise = 3;
        end();
        promise = 4;
        text();
        promise = 5;
        fault();
        promise = 6;
        fork();
        promise = 7;
        best();
        promise = 8;
        step();
        promise = 9;
        steps();
        promise = 10;
        first();
        promise = 11;
        more();
        promise = 12;
        ties();
        promise = 13;
        plan();
        promise = 14;
        plans();
        promise = 15;
        planned();
        promise = 16;
        judge();
        promise = 17;
        cost();
        promise = 18;
        within();
        promise = 19;
        reach();
        promise = 20;
        dead();
        promise = 21;
        worth();
        promise = 22;
        unit();
        promise = 23;
        joined();
        promise = 24;
        costTo();
        promise = 25;
        take();
        promise = 26;
        gap();
        promise = 27;
        know();
        promise = 28;
        sooner();
        promise = 29;
        middle();
        promise = 30;
        late();
        promise = 31;
        coin();
        promise = 32;
        ruin();
        promise = 33;
        tail();
        promise = 34;
        lose();
        promise = 35;
        same();
        promise = 36;
        kinds();
        promise = 37;
        edge();
        promise = 38;
        rise();
        promise = 39;
        move();
        promise = 40;
        set();
        promise = 41;
        go();
        promise = 42;
        now();
        promise = 43;
        again();
        promise = 44;
        run();
        promise = 45;
        ran();
        promise = 46;
        count();
        promise = 47;
        keep();
        promise = 48;
        back();
        promise = 49;
        row();
        promise = 50;
        write();
        promise = 51;
        paste();
        System.out.println(wrong == 0 ? "all promises hold" : wrong + " answers are not as due");
        if (wrong != 0) {
            System.exit(1);
        }
    }

    private static void newObject() {
        LoftTree x = new LoftTree();
        due("NONE", LoftTree.NONE, -1);
        due("NEVER", LoftTree.NEVER, NEVER);
        due("count(0)", x.count(0), 1);
        due("count(1)", x.count(1), 1);
        for (int what = 2; what <= 10; what++) {
            due("count(" + what + ")", x.count(what), 0);
        }
        due("fork(0, 0)", x.fork(0, 0), -1);
        for (int what = 1; what <= 7; what++) {
            due("fork(0, " + what + ")", x.fork(0, what), 0);
        }
        for (int what = 0; what <= 4; what++) {
            due("now(" + what + ")", x.now(what), 0);
        }
        due("planned(0, 0)", x.planned(0, 0), 0);
        due("planned(0, 1)", x.planned(0, 1), 0);
        due("steps()", x.steps(), 2);
        due("best(0)", x.best(0), 0);
    }

    private static void feed() {
        LoftTree x = new LoftTree();
        due("feed", x.feed(0x726f6f74, 0x20707269, 0x63652031, 0x206d6f73, 0x74203220), 20);
        due("feed", x.feed(0x73656c6c, 0x2033206e, 0x65656420, 0x343b0a20, 0x20202020), 40);
        due("text()", x.text(), 1);
        due("fork(0, 2)", x.fork(0, 2), 1);
        due("fork(0, 5)", x.fork(0, 5), 4);
        for (int i = 1; i <= 90; i++) {
            due("feed", x.feed(0x20202020, 0x20202020, 0x20202020, 0x20202020, 0x20202020), 20 * i);
        }
        due("feed beyond 1,800", x.feed(1, 2, 3, 4, 5), -1);
        due("count(2)", x.count(2), 1800);
        due("end(1781)", x.end(1781), 1781);
        due("feed beyond 1,800", x.feed(1, 2, 3, 4, 5), -1);
        due("count(2)", x.count(2), 1781);
        due("end(1780)", x.end(1780), 1780);
        due("feed to 1,800", x.feed(-1, 2, 3, 4, 5), 1800);
        x.text();
        due("fault(1)", x.fault(1), 1780);
    }

    private static void end() {
        LoftTree x = new LoftTree();
        due("end(0)", x.end(0), 0);
        due("end(1)", x.end(1), -1);
        Tape.feed(x, "root price 0 most 0 sell 0 need 0; and more");
        due("end(-1)", x.end(-1), -1);
        due("end(44)", x.end(44), -1);
        due("end(MAX)", x.end(Integer.MAX_VALUE), -1);
        due("count(2)", x.count(2), 43);
        due("end(43)", x.end(43), 43);
        due("end(34)", x.end(34), 34);
        due("text()", x.text(), 1);
    }

    private static void text() {
        LoftTree x = Tape.of(HAY);
        due("text()", Tape.tell(x, HAY), 3);
        due("count(2)", x.count(2), 0);
        x.plan(0, 1, 1);
        x.plan(1, 2, 0);
        x.go(0);
        due("now(0)", x.now(0), 1);
        due("text() of a fault", Tape.tell(x, "root"), -4);
        due("the tape is empty then too", x.count(2), 0);
        due("now(0)", x.now(0), 1);
        due("planned(0, 1)", x.planned(0, 1), 1);
        due("count(0)", x.count(0), 3);
        due("text()", Tape.tell(x, HAY), 3);
        due("now(0)", x.now(0), 0);
        due("now(1)", x.now(1), 2);
        due("now(2)", x.now(2), 0);
        due("now(3)", x.now(3), 0);
        due("now(4)", x.now(4), 0);
        due("planned(0, 0)", x.planned(0, 0), 0);
        due("planned(0, 1)", x.planned(0, 1), 0);
        due("planned(1, 0)", x.planned(1, 0), 0);
        due("text() of fewer", Tape.tell(x, "root" + "\n" + BARE), 1);
        due("count(4)", x.count(4), 0);
        due("count(9)", x.count(9), 0);
        due("fork(0, 7)", x.fork(0, 7), 0);
        due("fork(1, 0)", x.fork(1, 0), NOTHING);
        Tape.tell(x, "start 1;cap 2;wide 3 cost 4;hold 5;left 6;root price 7 most 8 sell 9 need 1;");
        due("best(0) of this text: 7 * 2 + 5 * 2 less 6 * 2, and the like", x.best(0), 0);
        due("best(1)", x.best(1), 0);
        due("best(2)", x.best(2), 0);
        due("step(0, 0)", x.step(0, 0), 0);
        Tape.tell(x, "root " + BARE);
        for (int what = 4; what <= 9; what++) {
            due("count(" + what + "): what is not told is 0", x.count(what), 0);
        }
        due("fork(0, 2)", x.fork(0, 2), 0);
        Tape.tell(x, HAY);
        due("best(0) of the new text", x.best(0), 9 * E8);
        due("best(1) of the new text", x.best(1), 9);
        due("best(2) of the new text", x.best(2), 4);
        // words and numbers may touch
        reads("start5;cap020;root price1most2sell3need4;fork under0chance100" + BARE, 2);
        fails("rootprice1most2sell3need4;", 1, 0);
        reads("left 99;hold 99;wide 20 cost 999;cap 20;start 20;root price 99 most 20 sell 99 need 20;", 1);
    }

    private static void fault() {
        LoftTree x = new LoftTree();
        due("fault(0)", x.fault(0), 0);
        due("fault(1)", x.fault(1), -1);
        due("fault(2)", x.fault(2), -1);
        due("fault(-1)", x.fault(-1), -1);
        String root = "root " + BARE;
        // 1: no token, or it can't stand there
        fails("", 1, 0);
        fails("  \n", 1, 3);
        fails("start 5;", 1, 8);
        fails("start 5; ", 1, 9);
        fails("start", 1, 5);
        fails("Root " + BARE, 1, 0);
        fails("\troot " + BARE, 1, 0);
        fails("start @", 1, 6);
        fails("start 5@;" + root, 1, 7);
        fails("start -1;", 1, 6);
        fails("start" + (char) 233, 1, 5);
        fails("starts 5;" + root, 1, 0);
        fails("xtart 5;" + root, 1, 0);
        fails("startz 5;" + root, 1, 0);
        fails("start 5z;" + root, 1, 7);
        fails("5;" + root, 1, 0);
        fails(";" + root, 1, 0);
        fails("start ;" + root, 1, 6);
        fails("start 5 5;" + root, 1, 8);
        fails("start 5;;" + root, 1, 8);
        fails("wide 5;" + root, 1, 6);
        fails("root price 0 sell 0 most 0 need 0;", 1, 13);
        fails("root price 0 most 0 sell 0 need 0", 1, 33);
        fails(root + "fork under 0 chance 100", 1, 57);
        fails("fork under 0 chance 100 " + BARE, 1, 0);
        fails(root + "start 5;", 1, 34);
        fails("start 5;" + root + "start 5;", 1, 42);
        // 2: out of bounds
        fails("start 21;" + root, 2, 6);
        fails("cap 21;" + root, 2, 4);
        fails("wide 21 cost 0;" + root, 2, 5);
        fails("wide 20 cost 1000;" + root, 2, 13);
        fails("hold 100;" + root, 2, 5);
        fails("left 100;" + root, 2, 5);
        fails("left 4294967296;" + root, 2, 5);
        fails("left 18446744073709551616000;" + root, 2, 5);
        fails("root price 100 most 0 sell 0 need 0;", 2, 11);
        fails("root price 99 most 21 sell 0 need 0;", 2, 19);
        fails("root price 99 most 20 sell 100 need 0;", 2, 27);
        fails("root price 99 most 20 sell 99 need 21;", 2, 35);
        fails(root + "fork under 0 chance 0 " + BARE, 2, 54);
        fails(root + "fork under 0 chance 101 " + BARE, 2, 54);
        fails(root + "fork under 1 chance 100 " + BARE, 2, 45);
        fails(root + "fork under 999999999999 chance 100 " + BARE, 2, 45);
        String chain = root;
        for (int f = 0; f < 4; f++) {
            chain += "fork under " + f + " chance 100 " + BARE;
        }
        reads(chain, 5);
        fails(chain + "fork under 4 chance 100 " + BARE, 2, chain.length() + 11);
        String broad = root;
        for (int i = 0; i < 5; i++) {
            broad += "fork under 0 chance 20 " + BARE;
        }
        reads(broad, 6);
        fails(broad + "fork under 0 chance 20 " + BARE, 2, broad.length() + 11);
        // 3: told already
        fails("start 5; start 99;" + root, 3, 9);
        fails("cap 5;cap 5;" + root, 3, 6);
        fails("wide 5 cost 1;wide 5 cost 1;" + root, 3, 14);
        fails("hold 5;hold 5;" + root, 3, 7);
        fails("left 5;left 5;" + root, 3, 7);
        fails(root + root, 3, 34);
        forty();
        // 4: not 100 together
        fails(root + "fork under 0 chance 99 " + BARE, 4, 34);
        fails(root + "fork under 0 chance 99 " + BARE + "fork under 0 chance 2 " + BARE, 4, 34);
        String some = root + "fork under 0 chance 50 " + BARE + "fork under 0 chance 50 " + BARE;
        fails(some + "fork under 2 chance 1 " + BARE + "fork under 1 chance 1 " + BARE, 4,
            some.length() + ("fork under 2 chance 1 " + BARE).length());
        // an earlier place goes ahead of 4, a later one too
        fails(root + "fork under 0 chance 99 " + BARE + "root", 3, root.length() + ("fork under 0 chance 99 " + BARE).length());
        Tape.tell(x, "start @");
        due("fault(0)", x.fault(0), 1);
        due("fault(1)", x.fault(1), 6);
        due("fault(2)", x.fault(2), -1);
        Tape.tell(x, root);
        due("fault(0)", x.fault(0), 0);
        due("fault(1)", x.fault(1), -1);
    }

    private static String forks(int n) {
        StringBuilder s = new StringBuilder("root price0most0sell0need0;");
        for (int f = 1; f < n; f++) {
            int under = (f - 1) / 5;
            s.append("fork under").append(under).append("chance");
            int broods = (f - 1) / 5 == (n - 2) / 5 ? (n - 2) % 5 + 1 : 5;
            int place = (f - 1) % 5;
            s.append(place == 0 ? 100 - 10 * (broods - 1) : 10).append("price0most0sell0need0;");
        }
        return s.toString();
    }

    private static void forty() {
        reads(forks(40), 40);
        LoftTree x = Tape.of(forks(40));
        due("count(0)", x.count(0), 40);
        due("fork(39, 0)", x.fork(39, 0), 7);
        due("fork(7, 7)", x.fork(7, 7), 4);
        due("fork(7, 11)", x.fork(7, 11), 39);
        due("fork(7, 12)", x.fork(7, 12), NOTHING);
        due("count(1)", x.count(1), 32);
        String more = forks(40);
        fails(more + "fork", 3, more.length());
        fails(more + "fork under 39 chance 100 " + BARE, 3, more.length());
    }

    private static void fork() {
        LoftTree x = Tape.of(HAY);
        int[] root = {-1, 0, 3, 4, 1, 1, 0, 2, 1, 2, NOTHING};
        int[] second = {0, 50, 8, 3, 1, 3, 1, 0, NOTHING, NOTHING, NOTHING};
        for (int what = 0; what < root.length; what++) {
            due("fork(0, " + what + ")", x.fork(0, what), root[what]);
            due("fork(2, " + what + ")", x.fork(2, what), second[what]);
        }
        due("fork(0, -1)", x.fork(0, -1), NOTHING);
        due("fork(0, MAX)", x.fork(0, Integer.MAX_VALUE), NOTHING);
        due("fork(0, MIN)", x.fork(0, Integer.MIN_VALUE), NOTHING);
        due("fork(-1, 0)", x.fork(-1, 0), NOTHING);
        due("fork(3, 0)", x.fork(3, 0), NOTHING);
        due("fork(MAX, 0)", x.fork(Integer.MAX_VALUE, 0), NOTHING);
        due("fork(4, 6)", Tape.of(CHAIN).fork(4, 6), 4);
    }

    private static void best() {
        LoftTree x = Tape.of(HAY);
        due("best(0)", x.best(0), 9 * E8);
        due("best(1)", x.best(1), 9);
        due("best(2)", x.best(2), 4);
        due("best(3)", x.best(3), NEVER);
        due("best(-1)", x.best(-1), NEVER);
        x.plan(0, -1, 0);
        x.go(1);
        // from fork 2 with nothing: 3 must be bought for 8 each, in parts of that fork
        due("best(0) at fork 2", x.best(0), 24 * E6);
        due("best(1) at fork 2", x.best(1), 24);
        due("best(2) at fork 2", x.best(2), 0);
        LoftTree y = Tape.of(LOST);
        due("best(0) of a lost one", y.best(0), NEVER);
        due("best(1) of a lost one", y.best(1), NEVER);
        due("best(2) of a lost one", y.best(2), NEVER);
        // 3 lasts three years; the last two ones are bought when they are cheap: holding costs 2 + 1
        due("best(0) of a chain", Tape.of(CHAIN).best(0), 6 * E8);
        // the loft must be widened to last
        LoftTree z = Tape.of("cap 1;wide 4 cost 9;root price 2 most 4 sell 0 need 0;fork under 0 chance 100 price 0 most 0 sell 0 need 3;");
        due("best(0) with widening", z.best(0), 15 * E8);
    }

    private static void step() {
        LoftTree x = Tape.of(HAY);
        due("step(0, 0)", x.step(0, 0), 2);
        due("step(0, 1)", x.step(0, 1), 0);
        due("step(1, 0)", x.step(1, 0), 2);
        due("step(2, 0): the first of two", x.step(2, 0), 1);
        due("step(2, 1)", x.step(2, 1), 0);
        due("step(0, 2)", x.step(0, 2), NOTHING);
        due("step(0, -1)", x.step(0, -1), NOTHING);
        due("step(3, 0)", x.step(3, 0), NOTHING);
        due("step(-1, 0)", x.step(-1, 0), NOTHING);
        due("step(0, 0) of a lost one", Tape.of(LOST).step(0, 0), NOTHING);
        LoftTree z = Tape.of("cap 1;wide 4 cost 0;root price 2 most 4 sell 0 need 0;fork under 0 chance 100 price 0 most 0 sell 0 need 3;");
        due("step(0, 0) with widening", z.step(0, 0), 3);
        due("step(0, 1) with widening", z.step(0, 1), 1);
    }

    private static void steps() {
        due("steps()", Tape.of(HAY).steps(), 12);
        due("steps() of a lost one", Tape.of(LOST).steps(), 0);
        // 3 must be left for fork 1, so of 0 .. 4 only 3 and 4 lead on
        LoftTree x = Tape.of("cap 4;root price 1 most 4 sell 0 need 0;fork under 0 chance 100 price 0 most 0 sell 0 need 3;");
        due("steps()", x.steps(), 2);
        // a wide loft can't be widened
        LoftTree y = Tape.of("cap 4;wide 4 cost 1;root price 1 most 4 sell 0 need 0;fork under 0 chance 100 price 0 most 0 sell 0 need 0;");
        due("steps()", y.steps(), 10);
        y.plan(0, 2, 1);
        y.go(0);
        due("steps() when wide", y.steps(), 3);
    }

    private static void first() {
        LoftTree x = Tape.of(HAY);
        for (int i = 0; i < 12; i++) {
            due("first(" + i + ", 0)", x.first(i, 0), i % 6 - 1);
            due("first(" + i + ", 1)", x.first(i, 1), i / 6);
        }
        due("first(12, 0)", x.first(12, 0), NOTHING);
        due("first(-1, 0)", x.first(-1, 0), NOTHING);
        due("first(MAX, 0)", x.first(Integer.MAX_VALUE, 0), NOTHING);
        due("first(0, 2)", x.first(0, 2), NOTHING);
        due("first(0, -1)", x.first(0, -1), NOTHING);
        due("first(0, 0) of a lost one", Tape.of(LOST).first(0, 0), NOTHING);
    }

    private static void more() {
        LoftTree x = Tape.of(HAY);
        int[] means = {5, 2, 1, 0, 3, 6, 12};
        int[] worsts = {14, 8, 4, 0, 3, 6, 21};
        int[] rues = {10, 4, 0, 0, 3, 6, 17};
        for (int i = 0; i < means.length; i++) {
            due("more(0, " + i + ")", x.more(0, i), means[i] * E8);
            due("more(1, " + i + ")", x.more(1, i), worsts[i]);
            due("more(2, " + i + ")", x.more(2, i), rues[i]);
        }
        due("more(0, 12)", x.more(0, 12), NEVER);
        due("more(0, -1)", x.more(0, -1), NEVER);
        due("more(3, 0)", x.more(3, 0), NEVER);
        due("more(-1, 0)", x.more(-1, 0), NEVER);
        due("more(0, 0) of a lost one", Tape.of(LOST).more(0, 0), NEVER);
    }

    private static void ties() {
        LoftTree x = Tape.of(HAY);
        due("ties(0)", x.ties(0), 1);
        due("ties(1)", x.ties(1), 1);
        due("ties(2)", x.ties(2), 2);
        due("ties(3)", x.ties(3), -2);
        due("ties(-1)", x.ties(-1), -2);
        due("ties(0) of a lost one", Tape.of(LOST).ties(0), 0);
        due("ties(3) of a lost one", Tape.of(LOST).ties(3), -2);
        due("ties(0) of a new one", new LoftTree().ties(0), 2);
    }

    private static void plan() {
        LoftTree x = Tape.of(HAY);
        due("plan(0, 4, 0)", x.plan(0, 4, 0), true);
        due("plan(0, 5, 0): above most", x.plan(0, 5, 0), false);
        due("planned(0, 0)", x.planned(0, 0), 4);
        due("plan(0, -19, 0): of 20 with 1 needed", x.plan(0, -19, 0), true);
        due("plan(0, -20, 0)", x.plan(0, -20, 0), false);
        due("plan(0, -21, 0)", x.plan(0, -21, 0), false);
        due("planned(0, 0)", x.planned(0, 0), -19);
        due("plan(0, 0, 1)", x.plan(0, 0, 1), true);
        due("plan(0, 0, 2)", x.plan(0, 0, 2), false);
        due("plan(0, 0, -1)", x.plan(0, 0, -1), false);
        due("planned(0, 1)", x.planned(0, 1), 1);
        due("plan(3, 0, 0)", x.plan(3, 0, 0), false);
        due("plan(-1, 0, 0)", x.plan(-1, 0, 0), false);
        due("plan(0, MAX, 0)", x.plan(0, Integer.MAX_VALUE, 0), false);
        due("plan(0, MIN, 0)", x.plan(0, Integer.MIN_VALUE, 0), false);
        // a loft of 0 that can be 8 when wide: buying 5 is lawful there alone
        LoftTree y = Tape.of("wide 8 cost 1;root price 1 most 8 sell 0 need 0;");
        due("plan(0, 5, 0): lawful when wide", y.plan(0, 5, 0), true);
        due("plan(0, 8, 1)", y.plan(0, 8, 1), true);
        due("plan(0, 9, 1)", y.plan(0, 9, 1), false);
        // none was needed so much: with 20 in stock nothing can be done but to sell
        LoftTree z = Tape.of("root price 1 most 0 sell 0 need 20;");
        due("plan(0, 0, 0)", z.plan(0, 0, 0), true);
        due("plan(0, -1, 0)", z.plan(0, -1, 0), false);
        LoftTree w = Tape.of("cap 20;root price 1 most 20 sell 0 need 0;");
        due("plan(0, 20, 0)", w.plan(0, 20, 0), true);
        due("plan(0, -20, 0)", w.plan(0, -20, 0), true);
        due("planned(0, 0)", w.planned(0, 0), -20);
    }

    private static void plans() {
        LoftTree x = Tape.of(HAY);
        due("plans(0)", x.plans(0), -6);
        due("plans(-1)", x.plans(-1), -2);
        due("plans(4)", x.plans(4), -2);
        x.row(0, 3, 7);
        x.write(0, 0, 2);
        x.write(0, 1, 1);
        x.write(0, 2, 4294967296L + 1);
        x.write(0, 3, 0);
        x.write(0, 4, -3);
        x.write(0, 6, 1);
        due("plans(0)", x.plans(0), 2);
        due("planned(0, 0)", x.planned(0, 0), 2);
        due("planned(0, 1)", x.planned(0, 1), 1);
        due("planned(1, 0): was refused, not cut", x.planned(1, 0), 0);
        due("planned(2, 0)", x.planned(2, 0), -3);
        x.row(1, 0, 0);
        due("plans(1): an empty row", x.plans(1), 0);
        x.row(1, 0, 1);
        due("plans(1): one number", x.plans(1), 0);
        x.row(1, 0, 60);
        due("plans(1): more than there are forks", x.plans(1), 3);
        due("planned(0, 0)", x.planned(0, 0), 0);
        x.row(2, 0, 2);
        x.write(2, 0, 255);
        due("plans(2): 255 is -1 in a byte", x.plans(2), 1);
        due("planned(0, 0)", x.planned(0, 0), -1);
        x.row(2, 3, 2);
        x.write(2, 1, 4294967296L + 1);
        due("plans(2): b is not cut", x.plans(2), 0);
    }

    private static void planned() {
        LoftTree x = Tape.of(HAY);
        x.plan(0, 3, 1);
        due("planned(0, 0)", x.planned(0, 0), 3);
        due("planned(0, 1)", x.planned(0, 1), 1);
        due("planned(0, 2)", x.planned(0, 2), 4);
        due("planned(0, 3)", x.planned(0, 3), 1);
        due("planned(1, 2)", x.planned(1, 2), 1);
        due("planned(1, 3)", x.planned(1, 3), 1);
        x.plan(1, 0, 1);
        due("planned(1, 0)", x.planned(1, 0), 0);
        due("planned(1, 2): wide already", x.planned(1, 2), NOTHING);
        due("planned(1, 3): wide already", x.planned(1, 3), NOTHING);
        due("planned(0, 4)", x.planned(0, 4), NOTHING);
        due("planned(0, -1)", x.planned(0, -1), NOTHING);
        due("planned(3, 0)", x.planned(3, 0), NOTHING);
        due("planned(-1, 0)", x.planned(-1, 0), NOTHING);
        x.plan(0, -2, 0);
        due("planned(0, 2): unlawful with 2", x.planned(0, 2), NOTHING);
        due("planned(2, 2)", x.planned(2, 2), NOTHING);
        x.plan(0, 2, 0);
        x.go(1);
        due("planned(0, 0) behind us", x.planned(0, 0), 2);
        due("planned(0, 2) behind us", x.planned(0, 2), NOTHING);
        due("planned(1, 2) beside us", x.planned(1, 2), NOTHING);
        due("planned(2, 2)", x.planned(2, 2), 0);
    }

    private static void judge() {
        LoftTree x = Tape.of(HAY);
        due("judge(): 1 is left, 3 are needed", x.judge(), 1);
        x.plan(1, 2, 0);
        due("judge()", x.judge(), 2);
        x.plan(2, 2, 0);
        due("judge()", x.judge(), -1);
        x.plan(0, -2, 0);
        due("judge()", x.judge(), 0);
        LoftTree y = Tape.of(CHAIN);
        due("judge(): 3 last three years", y.judge(), 3);
        y.plan(2, -2, 0);
        due("judge()", y.judge(), 2);
        y.plan(2, 0, 0);
        y.go(0);
        due("judge() from fork 1 on", y.judge(), 3);
    }

    /** To fork 1 it costs 5 + 1 * 2 = 7, to fork 2 5 + 2 * 8 - 1 = 20 (one is left over). */
    private static LoftTree planned120() {
        LoftTree x = Tape.of(HAY);
        x.plan(0, 1, 0);
        x.plan(1, 1, 0);
        x.plan(2, 2, 0);
        return x;
    }

    private static void cost() {
        LoftTree x = planned120();
        due("cost(0)", x.cost(0), 13 * E8 + E8 / 2);
        due("cost(1)", x.cost(1), 20);
        due("cost(2)", x.cost(2), 11);
        due("cost(3)", x.cost(3), NEVER);
        due("cost(-1)", x.cost(-1), NEVER);
        x.go(1);
        due("cost(0) at fork 2", x.cost(0), 15 * E6);
        due("cost(1) at fork 2", x.cost(1), 15);
        due("cost(2) at fork 2: 8 would do", x.cost(2), 7);
        x.again();
        x.plan(2, 0, 0);
        due("cost(0) of an unlawful one", x.cost(0), NEVER);
        due("cost(1) of an unlawful one", x.cost(1), NEVER);
        due("cost(2) of an unlawful one", x.cost(2), NEVER);
    }

    private static void within() {
        LoftTree x = planned120();
        due("within(1)", x.within(1), 7);
        due("within(50)", x.within(50), 7);
        due("within(51)", x.within(51), 20);
        due("within(100)", x.within(100), 20);
        due("within(0)", x.within(0), NOTHING);
        due("within(101)", x.within(101), NOTHING);
        x.move(0, 0, 1, 50);
        due("within(1), fork 1 having no chance", x.within(1), 20);
        x.plan(0, -2, 0);
        due("within(50) of an unlawful one", x.within(50), NOTHING);
    }

    private static void reach() {
        LoftTree x = Tape.of(HAY);
        due("reach(0, 0)", x.reach(0, 0), 4);
        due("reach(0, 1)", x.reach(0, 1), 0);
        due("reach(1, 0)", x.reach(1, 0), 63);
        due("reach(1, 1)", x.reach(1, 1), 63);
        due("reach(1, 2)", x.reach(1, 2), -2);
        due("reach(1, -1)", x.reach(1, -1), -2);
        due("reach(3, 0)", x.reach(3, 0), -2);
        due("reach(-1, 0)", x.reach(-1, 0), -2);
        x.plan(0, 4, 1);
        x.go(0);
        due("reach(0, 0) behind us", x.reach(0, 0), -2);
        due("reach(2, 0) beside us", x.reach(2, 0), -2);
        due("reach(1, 0)", x.reach(1, 0), 0);
        due("reach(1, 1)", x.reach(1, 1), 32);
        // what leads nowhere is come to all the same
        due("reach(2, 0) of a lost one", Tape.of(LOST).reach(2, 0), 15);
        LoftTree y = Tape.of("start 20;cap 20;root price 0 most 20 sell 0 need 0;fork under 0 chance 100 " + BARE);
        due("reach(1, 0) of all", y.reach(1, 0), (1 << 21) - 1);
    }

    private static void dead() {
        LoftTree x = Tape.of("cap 2;wide 4 cost 1;root price 1 most 4 sell 0 need 0;fork under 0 chance 100 price 0 most 1 sell 0 need 3;");
        due("dead(1, 0)", x.dead(1, 0), 3);
        due("dead(1, 1)", x.dead(1, 1), 3);
        due("dead(0, 0): 1 or more can always be there", x.dead(0, 0), 0);
        due("dead(1, 2)", x.dead(1, 2), -2);
        due("dead(1, -1)", x.dead(1, -1), -2);
        due("dead(2, 0)", x.dead(2, 0), -2);
        due("dead(-1, 0)", x.dead(-1, 0), -2);
        LoftTree y = Tape.of(LOST);
        due("dead(0, 0) of a lost one", y.dead(0, 0), (1 << 21) - 1);
        due("dead(2, 0) of a lost one", y.dead(2, 0), 127);
        due("dead(1, 0) of a lost one", y.dead(1, 0), 0);
        y.plan(0, 1, 0);
        y.go(0);
        due("dead(0, 0) behind us", y.dead(0, 0), -2);
        due("dead(2, 0) beside us", y.dead(2, 0), -2);
        due("dead(1, 0)", y.dead(1, 0), 0);
    }

    private static void worth() {
        LoftTree x = Tape.of(HAY);
        int[] second = {24, 16, 8, 0, -1, -2};
        for (int s = 0; s < second.length; s++) {
            due("worth(2, " + s + ", 0)", x.worth(2, s, 0), second[s] * E6);
            due("worth(2, " + s + ", 1)", x.worth(2, s, 1), second[s] * E6);
        }
        due("worth(0, 2, 0)", x.worth(0, 2, 0), 9 * E8);
        due("worth(0, 3, 0)", x.worth(0, 3, 0), 6 * E8);
        due("worth(2, 21, 0)", x.worth(2, 21, 0), NEVER);
        due("worth(2, 20, 0): 17 sold", x.worth(2, 20, 0), -17 * E6);
        due("worth(2, -1, 0)", x.worth(2, -1, 0), NEVER);
        due("worth(2, 0, 2)", x.worth(2, 0, 2), NEVER);
        due("worth(2, 0, -1)", x.worth(2, 0, -1), NEVER);
        due("worth(3, 0, 0)", x.worth(3, 0, 0), NEVER);
        due("worth(-1, 0, 0)", x.worth(-1, 0, 0), NEVER);
        due("worth(2, 6, 0) of a lost one", Tape.of(LOST).worth(2, 6, 0), NEVER);
        due("worth(2, 7, 0) of a lost one", Tape.of(LOST).worth(2, 7, 0), 2 * E6);
        due("worth(4, 0, 0) of a chain", Tape.of(CHAIN).worth(4, 0, 0), 1);
        due("worth(3, 0, 0) of a chain", Tape.of(CHAIN).worth(3, 0, 0), 300);
        x.plan(0, 2, 0);
        x.go(0);
        due("worth(0, 2, 0) behind us", x.worth(0, 2, 0), NEVER);
        due("worth(2, 2, 0) beside us", x.worth(2, 2, 0), NEVER);
        due("worth(1, 2, 0)", x.worth(1, 2, 0), 2 * E6);
    }

    private static void unit() {
        LoftTree x = Tape.of(HAY);
        x.plan(0, 0, 0);
        due("unit(0): 9 less 6", x.unit(0), 3 * E8);
        due("unit(1): 4 less 2", x.unit(1), 2 * E6);
        due("unit(2): 16 less 8, its own step unlawful", x.unit(2), 8 * E6);
        x.plan(0, 4, 0);
        due("unit(2): -2 less -3", x.unit(2), E6);
        due("unit(3)", x.unit(3), NEVER);
        due("unit(-1)", x.unit(-1), NEVER);
        x.plan(0, -2, 0);
        due("unit(1): not come to", x.unit(1), NEVER);
        due("unit(0)", x.unit(0), 3 * E8);
        LoftTree full = Tape.of("start 20;cap 20;root price 1 most 0 sell 0 need 0;");
        due("unit(0) of 20", full.unit(0), NEVER);
        due("unit(0) of a lost one", Tape.of(LOST).unit(0), NEVER);
        LoftTree edge = Tape.of("start 1;cap 20;root price 1 most 0 sell 0 need 2;");
        due("unit(0): so is NEVER", edge.unit(0), NEVER);
        LoftTree costs = Tape.of("start 1;cap 20;hold 3;root price 1 most 0 sell 0 need 1;fork under 0 chance 100 price 0 most 0 sell 0 need 0;");
        costs.set(0, 2, 0);
        due("unit(0): it is given away", costs.unit(0), 0);
        x.plan(0, 1, 0);
        x.go(1);
        due("unit(0) behind us", x.unit(0), NEVER);
        due("unit(1) beside us", x.unit(1), NEVER);
        due("unit(2): 8 less 0", x.unit(2), 8 * E6);
    }

    private static String twins(String a, String b) {
        return "root " + BARE + "fork under 0 chance 30 price 1 most 1 sell 1 need 1;fork under 0 chance 70 price 1 most 1 sell 1 need 1;"
            + a + b;
    }

    private static void joined() {
        due("joined() of a new one", new LoftTree().joined(), 1);
        due("joined() of HAY", Tape.of(HAY).joined(), 3);
        due("joined() of twins", Tape.of(twins("", "")).joined(), 2);
        // under 1: two halves alike; under 2: one that is sure. Only when the halves are one are 1 and 2 alike.
        LoftTree x = Tape.of(twins("fork under 1 chance 50 " + BARE + "fork under 1 chance 50 " + BARE, "fork under 2 chance 100 " + BARE));
        due("joined(), the furthest first", x.joined(), 3);
        due("kinds() has not joined them", x.kinds(), 4);
        LoftTree y = Tape.of(twins("fork under 1 chance 50 price 1 most 0 sell 0 need 0;fork under 1 chance 50 " + BARE, "fork under 2 chance 100 " + BARE));
        due("joined() of unlike ones", y.joined(), 6);
        // 0; 1 with 6 and 7 as one, and its ends 8, 9, 10 as one; 2, 3, 4, 5 as one; an end under 6 and under 2
        due("joined() of 40", Tape.of(forks(40)).joined(), 7);
        x.go(0);
        due("joined() counts the whole tree", x.joined(), 3);
    }

    private static void costTo() {
        LoftTree x = planned120();
        due("costTo(1)", x.costTo(1), 7);
        due("costTo(2)", x.costTo(2), 20);
        due("costTo(0): no end", x.costTo(0), NOTHING);
        due("costTo(3)", x.costTo(3), NOTHING);
        due("costTo(-1)", x.costTo(-1), NOTHING);
        x.plan(1, 0, 0);
        due("costTo(1): unlawful", x.costTo(1), NOTHING);
        due("costTo(2): lawful on that way", x.costTo(2), 20);
        x.go(1);
        due("costTo(2) from itself on", x.costTo(2), 15);
        due("costTo(1) beside us", x.costTo(1), NOTHING);
    }

    private static void take() {
        LoftTree x = Tape.of(HAY);
        due("take(3)", x.take(3), -2);
        due("take(-1)", x.take(-1), -2);
        due("take(0): 3 are left, all of them eaten", x.take(0), 1);
        due("planned(0, 0)", x.planned(0, 0), 2);
        due("planned(1, 0)", x.planned(1, 0), 0);
        due("cost(0)", x.cost(0), 9 * E8);
        due("take(0)", x.take(0), 0);
        due("take(2)", x.take(2), 3);
        due("planned(0, 0)", x.planned(0, 0), 1);
        due("planned(1, 0)", x.planned(1, 0), 1);
        due("planned(2, 0)", x.planned(2, 0), 1);
        due("cost(2)", x.cost(2), 4);
        due("take(1)", x.take(1), 3);
        due("cost(1)", x.cost(1), 9);
        x.plan(0, 4, 0);
        x.go(1);
        due("take(0) at fork 2: the first of three", x.take(0), 1);
        due("planned(2, 0): 5 there, 3 needed, the rest sold", x.planned(2, 0), -2);
        due("planned(0, 0) behind us stays", x.planned(0, 0), 4);
        due("take(0) of a lost one", Tape.of(LOST).take(0), -1);
        due("take(3) of a lost one", Tape.of(LOST).take(3), -2);
        // widening is best at the last fork of a long way
        LoftTree y = Tape.of("wide 9 cost 1;left 5;root " + BARE + "fork under 0 chance 100 " + BARE + "fork under 1 chance 100 " + BARE
            + "fork under 2 chance 100 " + BARE + "fork under 3 chance 100 price 1 most 9 sell 0 need 0;");
        due("take(0)", y.take(0), 1);
        due("planned(0, 1): of forks as good at the first one not", y.planned(0, 1), 0);
        due("planned(4, 0)", y.planned(4, 0), 9);
        due("planned(4, 1)", y.planned(4, 1), 1);
        due("cost(0): 9 + 1 less 45", y.cost(0), -35 * E8);
    }

    private static void gap() {
        LoftTree x = planned120();
        due("gap(0)", x.gap(0), E8);
        due("gap(1)", x.gap(1), 0);
        due("gap(2): 15 less 8", x.gap(2), 7 * E6);
        due("gap(3)", x.gap(3), NEVER);
        due("gap(-1)", x.gap(-1), NEVER);
        x.plan(2, 0, 0);
        due("gap(2) of an unlawful step", x.gap(2), NEVER);
        due("gap(0) does not hang on it", x.gap(0), E8);
        x.plan(0, -2, 0);
        due("gap(0) of an unlawful step", x.gap(0), NEVER);
        due("gap(1), not come to", x.gap(1), NEVER);
        due("gap(0) of a lost one", Tape.of(LOST).gap(0), NEVER);
        LoftTree y = Tape.of("cap 4;root price 1 most 4 sell 0 need 0;fork under 0 chance 100 price 0 most 0 sell 0 need 3;");
        y.plan(0, 2, 0);
        due("gap(0) of a step that leads nowhere", y.gap(0), NEVER);
        y.plan(0, 4, 0);
        due("gap(0): one too many, given away", y.gap(0), E8);
        x.plan(0, 1, 0);
        x.go(0);
        due("gap(0) behind us", x.gap(0), NEVER);
        due("gap(2) beside us", x.gap(2), NEVER);
        due("gap(1)", x.gap(1), 0);
    }

    private static void know() {
        LoftTree x = Tape.of(HAY);
        due("know(): 9 less (5 + 9) / 2", x.know(), 2 * E8);
        x.plan(0, 1, 0);
        x.go(0);
        due("know() at an end", x.know(), 0);
        due("know() of a lost one", Tape.of(LOST).know(), NEVER);
        due("know() of a chain", Tape.of(CHAIN).know(), 0);
    }

    /** Under fork 1 (surely come to) what matters forks: 2 needs nothing, 3 needs 2; one can buy at 0 and 1 alone. */
    private static final String LATE_FORK = "cap 9;hold 1;root price 1 most 9 sell 0 need 0;fork under 0 chance 100 price 4 most 9 sell 0 need 0;"
        + "fork under 1 chance 50 price 0 most 0 sell 0 need 0;fork under 1 chance 50 price 0 most 0 sell 0 need 2;";

    private static void sooner() {
        LoftTree x = Tape.of(HAY);
        due("sooner(0)", x.sooner(0), 2 * E8);
        due("sooner(1) at an end", x.sooner(1), 0);
        due("sooner(3)", x.sooner(3), NEVER);
        due("sooner(-1)", x.sooner(-1), NEVER);
        due("sooner(0) of a lost one", Tape.of(LOST).sooner(0), NEVER);
        LoftTree y = Tape.of(LATE_FORK);
        // 2 are bought at 0 for 2, held there for 2 and at 1 for 2: 6. At 2 they are given away.
        due("best(0)", y.best(0), 6 * E8);
        // known at 1: with 2 held 2 + 2, then 0 or 2: 5; with none (8 + 2) / 2 = 5
        due("sooner(1)", y.sooner(1), E8);
        due("sooner(0): one alone is under it", y.sooner(0), 0);
        y.plan(0, 0, 0);
        y.go(0);
        due("best(0) at fork 1", y.best(0), 10 * E6);
        due("sooner(1) in parts of fork 1", y.sooner(1), 5 * E6);
        due("sooner(0) behind us", y.sooner(0), NEVER);
    }

    private static void middle() {
        LoftTree x = Tape.of(HAY);
        // of two as likely the first: to fork 1 alone selling 1 and buying 3 is as good as anything
        due("middle()", x.middle(), 5 * E8);
        x.move(0, 0, 1, 1);
        due("middle() with fork 2 the likelier", x.middle(), 0);
        due("middle() of a lost one", Tape.of(LOST).middle(), NEVER);
        // the likelier fork wants nothing; with nothing the other one is lost
        LoftTree y = Tape.of("cap 4;root price 1 most 4 sell 0 need 0;fork under 0 chance 60 " + BARE + "fork under 0 chance 40 price 0 most 0 sell 0 need 3;");
        due("best(0)", y.best(0), 3 * E8);
        due("middle() leads where nothing is", y.middle(), NEVER);
        due("middle() of a new one", new LoftTree().middle(), 0);
        due("middle() of a chain", Tape.of(CHAIN).middle(), 0);
        // looked at to the end of the likeliest way (2 needed there) or only to the one ahead of it (nothing)
        LoftTree z = Tape.of("cap 9;root price 1 most 9 sell 0 need 0;fork under 0 chance 100 price 5 most 9 sell 0 need 0;"
            + "fork under 1 chance 100 price 5 most 9 sell 0 need 0;fork under 2 chance 100 price 5 most 9 sell 0 need 0;"
            + "fork under 3 chance 100 price 5 most 9 sell 0 need 2;");
        due("best(0) of a long way", z.best(0), 2 * E8);
        due("middle() of a long way", z.middle(), 0);
        z.set(4, 1, 0);
        due("middle() of a long way", z.middle(), 0);
    }

    /** One can do with 1 in the loft if it is widened at fork 1 at last; widening at 2 helps no more. */
    private static final String WIDEN = "cap 1;wide 5 cost 3;root price 2 most 9 sell 0 need 0;fork under 0 chance 100 price 9 most 9 sell 0 need 0;"
        + "fork under 1 chance 100 price 9 most 0 sell 0 need 3;";

    private static void late() {
        LoftTree x = Tape.of(WIDEN);
        due("best(0): widened at once", x.best(0), 9 * E8);
        due("late(0)", x.late(0), 0);
        due("late(4)", x.late(4), 0);
        due("late(5)", x.late(5), NEVER);
        due("late(-1)", x.late(-1), NEVER);
        x.plan(0, 1, 0);
        x.go(0);
        due("late(0): at fork 1 it is too late", x.late(0), NEVER);
        due("late(1)", x.late(1), 0);
        LoftTree y = Tape.of("cap 3;wide 5 cost 1;root price 9 most 9 sell 0 need 0;fork under 0 chance 100 price 1 most 9 sell 0 need 0;"
            + "fork under 1 chance 100 price 8 most 9 sell 0 need 5;");
        // widened: 5 + 1; not: 3 + 16
        due("best(0)", y.best(0), 6 * E8);
        due("late(0): can be widened ahead", y.late(0), 0);
        y.go(0);
        due("late(0): 19 less 6", y.late(0), 13 * E6);
        due("late(1)", y.late(1), 0);
        due("late(0) of a lost one", Tape.of(LOST).late(0), NEVER);
        LoftTree z = Tape.of(LATE_FORK);
        z.sooner(1);
        due("late(0) behind sooner(1)", z.late(0), 0);
        z.lose(1);
        due("late(0) behind lose(1)", z.late(0), 0);
        z.coin();
        due("late(0) behind coin()", z.late(0), 0);
    }

    private static void coin() {
        LoftTree x = Tape.of(HAY);
        due("coin()", x.coin(), 9);
        due("coin() of a lost one", Tape.of(LOST).coin(), NEVER);
        // 3 last for 2 + 1; 1 must be bought at the price of 2 then, and 1 of 1
        due("coin() of a chain", Tape.of(CHAIN).coin(), 6);
        // what comes in later does not help now
        LoftTree y = Tape.of("cap 5;root price 4 most 2 sell 0 need 0;fork under 0 chance 100 price 0 most 0 sell 9 need 1;");
        due("best(0)", y.best(0), -E8);
        due("coin()", y.coin(), 4);
        LoftTree z = Tape.of("start 5;cap 5;root price 0 most 0 sell 7 need 0;");
        due("coin(): 0 at least", z.coin(), 0);
        due("best(1)", z.best(1), -35);
        // what came in ahead helps
        LoftTree w = Tape.of("start 2;cap 5;root price 0 most 0 sell 7 need 0;fork under 0 chance 100 price 9 most 5 sell 0 need 1;");
        due("coin()", w.coin(), 0);
        w.plan(0, -2, 0);
        w.go(0);
        due("coin() does not count what was spent", w.coin(), 9);
    }

    private static void ruin() {
        LoftTree x = planned120();
        due("ruin(4)", x.ruin(4), E8);
        due("ruin(5)", x.ruin(5), E8);
        due("ruin(6)", x.ruin(6), E8);
        due("ruin(7)", x.ruin(7), E8 / 2);
        due("ruin(19)", x.ruin(19), E8 / 2);
        due("ruin(20)", x.ruin(20), 0);
        due("ruin(0)", x.ruin(0), E8);
        due("ruin(-1)", x.ruin(-1), NEVER);
        due("ruin(99999)", x.ruin(99999), 0);
        due("ruin(100000)", x.ruin(100000), NEVER);
        x.go(1);
        due("ruin(14) at fork 2, in 10^8", x.ruin(14), E8);
        due("ruin(15) at fork 2", x.ruin(15), 0);
        x.plan(2, 0, 0);
        due("ruin(15) of an unlawful one", x.ruin(15), NEVER);
        // it is below 0 on the way, though not at the end
        LoftTree y = Tape.of("cap 5;root price 4 most 2 sell 0 need 0;fork under 0 chance 100 price 0 most 0 sell 9 need 1;");
        y.plan(0, 2, 0);
        y.plan(1, -1, 0);
        due("cost(1)", y.cost(1), -1);
        due("ruin(7)", y.ruin(7), E8);
        due("ruin(8)", y.ruin(8), 0);
    }

    private static void tail() {
        LoftTree x = planned120();
        due("tail(1)", x.tail(1), 20 * E6);
        due("tail(50)", x.tail(50), 50 * 20 * E6);
        due("tail(60)", x.tail(60), 50 * 20 * E6 + 10 * 7 * E6);
        due("tail(100)", x.tail(100), x.cost(0));
        due("tail(0)", x.tail(0), NEVER);
        due("tail(101)", x.tail(101), NEVER);
        x.go(1);
        due("tail(10) at fork 2, in 10^8", x.tail(10), 10 * 15 * E6);
        x.plan(2, 0, 0);
        due("tail(10) of an unlawful one", x.tail(10), NEVER);
    }

    private static void lose() {
        // looked at to fork 1 alone nothing need be bought at 0 or left at 1; in truth 2 are needed behind it
        LoftTree x = Tape.of(LATE_FORK);
        due("lose(1): 10 less 6", x.lose(1), 4 * E8);
        due("lose(2)", x.lose(2), 0);
        due("lose(4)", x.lose(4), 0);
        due("lose(0)", x.lose(0), NEVER);
        due("lose(5)", x.lose(5), NEVER);
        due("lose(1) of a lost one", Tape.of(LOST).lose(1), NEVER);
        due("lose(1) of HAY", Tape.of(HAY).lose(1), 0);
        x.coin();
        due("lose(1) behind coin()", x.lose(1), 4 * E8);
        x.late(0);
        due("lose(2) behind late(0)", x.lose(2), 0);
        x.sooner(1);
        due("lose(1) behind sooner(1)", x.lose(1), 4 * E8);
        x.middle();
        due("sooner(1) behind middle()", x.sooner(1), E8);
        x.lose(1);
        due("sooner(1) behind lose(1)", x.sooner(1), E8);
        x.lose(1);
        due("coin() behind lose(1)", x.coin(), 6);
        due("lose(1) leads where nothing is", Tape.of(WIDEN).lose(1) == NEVER ? 1 : 0, 0);
        LoftTree y = Tape.of("cap 5;root price 2 most 9 sell 0 need 0;fork under 0 chance 100 price 9 most 0 sell 0 need 0;"
            + "fork under 1 chance 100 price 9 most 0 sell 0 need 3;");
        due("lose(1) leads where nothing is", y.lose(1), NEVER);
        due("lose(2)", y.lose(2), 0);
        // what is left counts at a fork that is taken as an end
        LoftTree z = Tape.of("cap 5;left 4;root price 2 most 9 sell 0 need 0;fork under 0 chance 100 price 9 most 0 sell 0 need 0;"
            + "fork under 1 chance 100 price 9 most 0 sell 0 need 5;");
        due("lose(1)", z.lose(1), 0);
        due("best(0)", z.best(0), 10 * E8);
        x.plan(0, 0, 0);
        x.go(0);
        due("lose(1) is counted from NOW", x.lose(1), 0);
    }

    private static void same() {
        LoftTree x = Tape.of(twins("fork under 1 chance 100 " + BARE, "fork under 2 chance 100 " + BARE));
        due("same(1, 2)", x.same(1, 2), 1);
        due("same(3, 4)", x.same(3, 4), 1);
        due("same(0, 1)", x.same(0, 1), 0);
        due("same(0, 3): one has forks under it", x.same(0, 3), 0);
        due("same(0, 0)", x.same(0, 0), 1);
        due("same(5, 0)", x.same(5, 0), -2);
        due("same(0, -1)", x.same(0, -1), -2);
        for (int what = 0; what <= 3; what++) {
            x.keep(0);
            x.set(4, what, 1);
            due("same(3, 4) of unlike ones", x.same(3, 4), 0);
            due("same(1, 2) of unlike ones under", x.same(1, 2), 0);
            x.back(0);
        }
        LoftTree y = Tape.of(twins("fork under 1 chance 40 " + BARE + "fork under 1 chance 60 " + BARE,
            "fork under 2 chance 60 " + BARE + "fork under 2 chance 40 " + BARE));
        due("same(1, 2) of unlike chances", y.same(1, 2), 0);
        due("same(3, 4) of unlike chances themselves", y.same(3, 4), 1);
        y.move(1, 1, 0, 20);
        due("same(1, 2) of like chances", y.same(1, 2), 1);
        due("same(0, 3): ends far and near", Tape.of("root " + BARE).same(0, 0), 1);
    }

    private static void kinds() {
        due("kinds() of a new one", new LoftTree().kinds(), 1);
        due("kinds() of HAY", Tape.of(HAY).kinds(), 3);
        due("kinds() of twins", Tape.of(twins("", "")).kinds(), 2);
        due("kinds() of a chain", Tape.of(CHAIN).kinds(), 5);
        // 0; 1; 2 to 6; 7; the ends
        due("kinds() of 40", Tape.of(forks(40)).kinds(), 5);
        LoftTree x = Tape.of(twins("fork under 1 chance 100 price 1 most 1 sell 1 need 1;", ""));
        due("kinds(): 2 and 3 are alike, being ends", x.kinds(), 3);
        due("same(2, 3)", x.same(2, 3), 1);
    }

    private static void edge() {
        LoftTree x = Tape.of(HAY);
        // by the chance p of fork 2: t = 1 costs 5 + 12 p, t = 2: 7 + 6 p, t = 3: 9: t = 3 down to 34 hundredths, then t = 1
        due("edge(0, 1, 0)", x.edge(0, 1, 0), 17);
        due("edge(0, 0, 1)", x.edge(0, 0, 1), -1);
        due("fork(1, 1) stays", x.fork(1, 1), 50);
        due("best(0) stays", x.best(0), 9 * E8);
        due("edge(0, 0, 0)", x.edge(0, 0, 0), -2);
        due("edge(0, 0, 2)", x.edge(0, 0, 2), -2);
        due("edge(0, -1, 0)", x.edge(0, -1, 0), -2);
        due("edge(1, 0, 1)", x.edge(1, 0, 1), -2);
        due("edge(3, 0, 1)", x.edge(3, 0, 1), -2);
        due("edge(-1, 0, 1)", x.edge(-1, 0, 1), -2);
        due("move", x.move(0, 1, 0, 16), 66);
        due("step(0, 0)", x.step(0, 0), 2);
        due("edge(0, 1, 0)", x.edge(0, 1, 0), 1);
        due("move", x.move(0, 1, 0, 1), 67);
        due("step(0, 0)", x.step(0, 0), 0);
        due("edge(0, 0, 1)", x.edge(0, 0, 1), 1);
        due("edge(0, 0, 1) of a lost one", Tape.of(LOST).edge(0, 0, 1), -1);
        LoftTree y = Tape.of(HAY);
        y.coin();
        due("edge(0, 1, 0) behind coin()", y.edge(0, 1, 0), 17);
        y.lose(1);
        due("edge(0, 1, 0) behind lose(1)", y.edge(0, 1, 0), 17);
        due("coin() behind edge(0, 1, 0)", y.coin(), 9);
        due("edge(0, 0, 0) of a lost one", Tape.of(LOST).edge(0, 0, 0), -2);
        x.go(0);
        due("edge(0, 0, 1) behind us", x.edge(0, 0, 1), -1);
    }

    private static void rise() {
        LoftTree x = Tape.of(HAY);
        // by the rise n at 0: t = 1 costs 11, t = 2: 10 + n, t = 3: 9 + 2 n: from 1 on t = 2 is as good and first
        due("rise(0)", x.rise(0), 1);
        due("fork(0, 2) stays", x.fork(0, 2), 3);
        due("best(0) stays", x.best(0), 9 * E8);
        due("rise(1)", x.rise(1), -1);
        due("rise(3)", x.rise(3), -2);
        due("rise(-1)", x.rise(-1), -2);
        due("rise(0) of a lost one", Tape.of(LOST).rise(0), -1);
        due("rise(3) of a lost one", Tape.of(LOST).rise(3), -2);
        // the price now must rise above that of 99 a year later: holding costs nothing
        LoftTree y = Tape.of("cap 5;root price 95 most 3 sell 0 need 0;fork under 0 chance 100 price 99 most 3 sell 0 need 1;");
        due("step(0, 0)", y.step(0, 0), 1);
        due("rise(0)", y.rise(0), 4);
        LoftTree z = Tape.of("cap 5;hold 4;root price 95 most 3 sell 0 need 0;fork under 0 chance 100 price 99 most 3 sell 0 need 1;");
        due("step(0, 0): the first of two", z.step(0, 0), 0);
        due("rise(1): to 100", z.rise(1), 1);
        LoftTree w = Tape.of("cap 5;root price 0 most 3 sell 0 need 0;fork under 0 chance 100 price 99 most 3 sell 0 need 1;");
        due("rise(0): 99 is as good, and not to buy is first", w.rise(0), 99);
        w.set(1, 1, 0);
        due("rise(0): it must be bought", w.rise(0), -1);
        y.plan(0, 1, 0);
        y.go(0);
        due("rise(0) behind us", y.rise(0), -1);
    }

    private static void move() {
        LoftTree x = Tape.of(HAY);
        due("move(0, 0, 1, 10)", x.move(0, 0, 1, 10), 60);
        due("fork(1, 1)", x.fork(1, 1), 40);
        due("fork(2, 1)", x.fork(2, 1), 60);
        due("move(0, 0, 1, 41)", x.move(0, 0, 1, 41), -7);
        due("move(0, 0, 1, 0)", x.move(0, 0, 1, 0), -7);
        due("move(0, 0, 1, -5)", x.move(0, 0, 1, -5), -7);
        due("move(0, 0, 1, MIN)", x.move(0, 0, 1, Integer.MIN_VALUE), -7);
        due("move(0, 0, 0, 1)", x.move(0, 0, 0, 1), -2);
        due("move(0, 0, 0, 0)", x.move(0, 0, 0, 0), -2);
        due("move(0, 0, 2, 1)", x.move(0, 0, 2, 1), -2);
        due("move(0, -1, 1, 1)", x.move(0, -1, 1, 1), -2);
        due("move(1, 0, 1, 1)", x.move(1, 0, 1, 1), -2);
        due("move(3, 0, 1, 1)", x.move(3, 0, 1, 1), -2);
        due("move(-1, 0, 1, 1)", x.move(-1, 0, 1, 1), -2);
        due("move(0, 0, 1, 40): all", x.move(0, 0, 1, 40), 100);
        due("best(0)", x.best(0), 9 * E8);
        x.move(0, 1, 0, 70);
        x.move(0, 1, 0, 30);
        x.move(0, 1, 0, 30);
        due("best(0) is told anew", x.best(0), 5 * E8);
        due("move(0, 0, 1, 100)", x.move(0, 0, 1, 100), 100);
        due("best(0) is told anew", x.best(0), 9 * E8);
        due("fork(1, 1)", x.fork(1, 1), 0);
        x.plan(0, 0, 0);
        x.plan(1, 2, 0);
        x.plan(2, 2, 0);
        due("cost(0) with fork 2 sure", x.cost(0), 17 * E8);
        due("best(1) still looks at fork 1", x.best(1), 9);
        x.set(1, 1, 0);
        x.set(1, 3, 6);
        due("what has no chance must be lawful too", x.best(0), NEVER);
    }

    private static void set() {
        LoftTree x = Tape.of(HAY);
        due("set(2, 0, 9)", x.set(2, 0, 9), 8);
        due("set(2, 1, 20)", x.set(2, 1, 20), 3);
        due("set(2, 2, 99)", x.set(2, 2, 99), 1);
        due("set(2, 3, 0)", x.set(2, 3, 0), 3);
        due("fork(2, 2)", x.fork(2, 2), 9);
        due("fork(2, 3)", x.fork(2, 3), 20);
        due("fork(2, 4)", x.fork(2, 4), 99);
        due("fork(2, 5)", x.fork(2, 5), 0);
        due("set(2, 0, 100)", x.set(2, 0, 100), -2);
        due("set(2, 1, 21)", x.set(2, 1, 21), -2);
        due("set(2, 2, 100)", x.set(2, 2, 100), -2);
        due("set(2, 3, 21)", x.set(2, 3, 21), -2);
        due("set(2, 0, -1)", x.set(2, 0, -1), -2);
        due("set(2, 4, 1)", x.set(2, 4, 1), -2);
        due("set(2, -1, 1)", x.set(2, -1, 1), -2);
        due("set(3, 0, 1)", x.set(3, 0, 1), -2);
        due("set(-1, 0, 1)", x.set(-1, 0, 1), -2);
        due("set(2, 0, 99)", x.set(2, 0, 99), 9);
        LoftTree y = Tape.of(HAY);
        y.best(0);
        y.best(1);
        y.best(2);
        y.set(2, 0, 2);
        due("best(0) is told anew", y.best(0), 5 * E8);
        due("best(1) is told anew", y.best(1), 5);
        due("best(2) is told anew", y.best(2), 0);
    }

    private static void go() {
        LoftTree x = Tape.of(HAY);
        due("go(2)", x.go(2), -2);
        due("go(-1)", x.go(-1), -2);
        x.plan(0, -2, 0);
        due("go(2) of an unlawful step", x.go(2), -2);
        due("go(0) of an unlawful step", x.go(0), -5);
        due("now(0)", x.now(0), 0);
        x.plan(0, 2, 1);
        due("go(1)", x.go(1), 2);
        due("now(1)", x.now(1), 3);
        due("now(2)", x.now(2), 1);
        due("now(3)", x.now(3), 16);
        due("go(0) at an end", x.go(0), -2);
    }

    private static void now() {
        LoftTree x = Tape.of(CHAIN);
        due("now(1)", x.now(1), 3);
        x.go(0);
        x.plan(1, 2, 0);
        x.go(0);
        due("now(0)", x.now(0), 2);
        due("now(1)", x.now(1), 3);
        due("now(2)", x.now(2), 0);
        due("now(3): 2, then 8 and 3", x.now(3), 13);
        due("now(4)", x.now(4), 2);
        due("now(5)", x.now(5), -1);
        due("now(-1)", x.now(-1), -1);
    }

    private static void again() {
        LoftTree x = Tape.of(CHAIN);
        due("again()", x.again(), 0);
        x.go(0);
        x.go(0);
        due("again()", x.again(), 2);
        due("now(0)", x.now(0), 0);
        due("now(1)", x.now(1), 3);
        due("now(3)", x.now(3), 0);
        due("now(4)", x.now(4), 0);
        LoftTree y = Tape.of(WIDEN);
        y.plan(0, 3, 1);
        y.go(0);
        due("now(2)", y.now(2), 1);
        y.again();
        due("now(2)", y.now(2), 0);
        due("planned(0, 1) stays", y.planned(0, 1), 1);
        LoftTree z = Tape.of(HAY);
        z.plan(0, -1, 0);
        z.go(1);
        due("best(2) at fork 2", z.best(2), 0);
        due("reach(2, 0) at fork 2", z.reach(2, 0), 1);
        z.again();
        due("best(2) is told anew", z.best(2), 4);
        due("reach(2, 0) is told anew", z.reach(2, 0), 63);
    }

    private static void run() {
        LoftTree x = planned120();
        // s = 12345: r is 0; s = 1103515245 * 1 + 12345 = 1103527590: r is 38
        due("run(0)", x.run(0), 1);
        due("run(1)", x.run(1), 1);
        // 2207042835 as 32 bits, >>> 16 is 33676: r is 76
        due("run(2)", x.run(2), 2);
        due("now(0)", x.now(0), 0);
        x.plan(1, 0, 0);
        due("run(0): unlawful at fork 1", x.run(0), -5);
        due("run(2): not on that way", x.run(2), 2);
        x.plan(0, -2, 0);
        due("run(2): unlawful at once", x.run(2), -5);
        x.plan(0, 1, 0);
        x.go(1);
        due("run(0) at an end", x.run(0), 2);
        LoftTree y = Tape.of("root " + BARE + "fork under 0 chance 38 " + BARE + "fork under 0 chance 1 " + BARE + "fork under 0 chance 61 " + BARE);
        due("run(1): 38 is not below 38, but below 39", y.run(1), 2);
        y.move(0, 1, 0, 1);
        due("run(1): the second has no chance", y.run(1), 1);
        y.move(0, 0, 2, 1);
        due("run(1)", y.run(1), 3);
        LoftTree z = Tape.of(CHAIN);
        z.take(0);
        due("run(5) of a chain", z.run(5), 4);
        z.plan(4, 0, 0);
        due("run(5) of a chain, unlawful at last", z.run(5), -5);
    }

    private static void ran() {
        LoftTree x = planned120();
        due("ran()", x.ran(), NOTHING);
        x.run(2);
        due("ran()", x.ran(), 20);
        x.run(0);
        due("ran()", x.ran(), 7);
        x.plan(2, 0, 0);
        due("run(2)", x.run(2), -5);
        due("ran() of the latest that came to an end", x.ran(), 7);
        x.plan(2, 2, 0);
        x.go(1);
        x.run(0);
        due("ran() from fork 2 on", x.ran(), 15);
        Tape.tell(x, HAY);
        due("ran() stays", x.ran(), 15);
    }

    private static void count() {
        LoftTree x = Tape.of(HAY);
        int[] all = {3, 2, 0, 1, 2, 5, 10, 7, 1, 2, 0, -1};
        for (int what = 0; what < all.length; what++) {
            due("count(" + what + ")", x.count(what), all[what]);
        }
        due("count(-1)", x.count(-1), -1);
        x.feed(1, 2, 3, 4, 5);
        due("count(2)", x.count(2), 20);
        x.row(3, 0, 0);
        x.row(1, 0, 5);
        x.row(1, 2, 5);
        due("count(10)", x.count(10), 2);
        due("count(3) of a chain", Tape.of(CHAIN).count(3), 4);
        due("count(1) of a chain", Tape.of(CHAIN).count(1), 1);
        LoftTree y = Tape.of(CHAIN);
        y.go(0);
        due("count(0) of the whole tree", y.count(0), 5);
    }

    private static void keep() {
        LoftTree x = Tape.of(HAY);
        due("keep(3)", x.keep(3), -2);
        due("keep(-1)", x.keep(-1), -2);
        due("keep(0)", x.keep(0), 0);
        due("keep(2)", x.keep(2), 0);
        due("keep(0) anew", x.keep(0), 0);
        x.set(0, 0, 50);
        x.keep(1);
        Tape.tell(x, CHAIN);
        x.back(1);
        due("fork(0, 2) as it was changed", x.fork(0, 2), 50);
        x.back(0);
        due("fork(0, 2) as it was", x.fork(0, 2), 3);
    }

    private static void back() {
        LoftTree x = Tape.of(HAY);
        due("back(0)", x.back(0), -6);
        due("back(3)", x.back(3), -2);
        due("back(-1)", x.back(-1), -2);
        x.plan(0, 2, 1);
        x.plan(2, 1, 0);
        x.go(1);
        x.move(0, 0, 1, 5);
        x.keep(1);
        due("back(0)", x.back(0), -6);
        Tape.tell(x, CHAIN);
        x.row(0, 1, 3);
        due("back(1)", x.back(1), 0);
        due("count(0)", x.count(0), 3);
        due("count(6)", x.count(6), 10);
        due("now(0)", x.now(0), 2);
        due("now(1)", x.now(1), 3);
        due("now(2)", x.now(2), 1);
        due("now(3)", x.now(3), 16);
        due("now(4)", x.now(4), 1);
        due("planned(0, 0)", x.planned(0, 0), 2);
        due("planned(2, 0)", x.planned(2, 0), 1);
        due("fork(2, 1)", x.fork(2, 1), 55);
        due("count(10): slots stay", x.count(10), 1);
        due("best(0)", x.best(0), 0);
        x.set(2, 0, 1);
        x.plan(2, 0, 0);
        due("back(1) again", x.back(1), 0);
        due("fork(2, 2): the image has its own", x.fork(2, 2), 8);
        due("planned(2, 0)", x.planned(2, 0), 1);
    }

    private static void row() {
        LoftTree x = new LoftTree();
        due("row(0, 0, 60)", x.row(0, 0, 60), 0);
        due("row(3, 3, 0)", x.row(3, 3, 0), 0);
        due("row(0, 0, 61)", x.row(0, 0, 61), -2);
        due("row(4, 0, 1)", x.row(4, 0, 1), -2);
        due("row(-1, 0, 1)", x.row(-1, 0, 1), -2);
        due("row(0, 4, 1)", x.row(0, 4, 1), -2);
        due("row(0, -1, 1)", x.row(0, -1, 1), -2);
        due("row(0, 0, -1)", x.row(0, 0, -1), -3);
        due("row(0, 0, MIN)", x.row(0, 0, Integer.MIN_VALUE), -3);
        due("row(4, 0, -1)", x.row(4, 0, -1), -2);
        due("row(0, 4, -1)", x.row(0, 4, -1), -2);
        due("write(0, 59, 1): the slot stays", x.write(0, 59, 1), 0);
        due("row(0, 1, 2)", x.row(0, 1, 2), 0);
        due("write(0, 2, 1)", x.write(0, 2, 1), -7);
        LoftTree y = Tape.of(HAY);
        y.row(0, 0, 2);
        y.write(0, 0, 3);
        y.row(0, 0, 2);
        y.plan(0, 1, 0);
        due("plans(0)", y.plans(0), 1);
        due("planned(0, 0): all 0 anew", y.planned(0, 0), 0);
    }

    private static void write() {
        LoftTree x = Tape.of(HAY);
        due("write(0, 0, 1)", x.write(0, 0, 1), -6);
        due("write(4, 0, 1)", x.write(4, 0, 1), -2);
        due("write(-1, 0, 1)", x.write(-1, 0, 1), -2);
        x.row(0, 0, 2);
        due("write(0, 2, 1)", x.write(0, 2, 1), -7);
        due("write(0, -1, 1)", x.write(0, -1, 1), -7);
        long[] beyond = {1L << 8, 1L << 16, 1L << 32, 0};
        for (int width = 0; width <= 3; width++) {
            x.row(0, width, 2);
            due("write", x.write(0, 0, beyond[width] - 1), 0);
            due("plans(0)", x.plans(0), 1);
            due("planned(0, 0) of width " + width, x.planned(0, 0), -1);
            due("write", x.write(0, 0, beyond[width] + 2), 0);
            due("plans(0)", x.plans(0), 1);
            due("planned(0, 0) of width " + width, x.planned(0, 0), 2);
        }
        x.row(0, 2, 2);
        x.write(0, 0, 65536 + 1);
        due("plans(0): 4 bytes keep that", x.plans(0), 0);
    }

    private static void paste() {
        LoftTree x = Tape.of(HAY);
        due("paste from none", x.paste(0, 0, 1, 0, 0), -6);
        due("paste from no slot", x.paste(-1, 0, 1, 0, 0), -2);
        due("paste to no slot", x.paste(0, 0, 4, 0, 0), -2);
        x.row(0, 0, 6);
        due("paste to none", x.paste(0, 0, 1, 0, 1), -6);
        x.row(1, 1, 6);
        due("paste of unlike widths", x.paste(0, 0, 1, 0, 1), -8);
        due("paste of unlike widths, beyond", x.paste(0, 0, 1, 0, 99), -8);
        x.row(1, 0, 4);
        int[] numbers = {1, 1, 2, 0, 3, 0};
        for (int i = 0; i < 6; i++) {
            x.write(0, i, numbers[i]);
        }
        due("paste beyond the first", x.paste(0, 3, 1, 0, 4), -7);
        due("paste beyond the other", x.paste(0, 0, 1, 1, 4), -7);
        due("paste from below", x.paste(0, -1, 1, 0, 1), -7);
        due("paste to below", x.paste(0, 0, 1, -1, 1), -7);
        due("paste of fewer than none", x.paste(0, 0, 1, 0, -1), -7);
        due("paste of too many", x.paste(0, 1, 1, 1, Integer.MAX_VALUE), -7);
        due("paste from afar", x.paste(0, Integer.MAX_VALUE, 1, 0, 1), -7);
        due("paste of none at the end", x.paste(0, 6, 1, 4, 0), 0);
        due("plans(1): nothing happened yet", x.plans(1), 2);
        due("planned(0, 0)", x.planned(0, 0), 0);
        due("paste", x.paste(0, 2, 1, 0, 4), 0);
        x.plans(1);
        due("planned(0, 0)", x.planned(0, 0), 2);
        due("planned(1, 0)", x.planned(1, 0), 3);
        // over itself: 1 1 1 1 2 0
        due("paste over itself", x.paste(0, 0, 0, 2, 4), 0);
        x.plans(0);
        due("planned(0, 0)", x.planned(0, 0), 1);
        due("planned(1, 0)", x.planned(1, 0), 1);
        due("planned(1, 1)", x.planned(1, 1), 1);
        due("planned(2, 0)", x.planned(2, 0), 2);
        due("planned(2, 1)", x.planned(2, 1), 0);
        due("paste back over itself", x.paste(0, 4, 0, 3, 2), 0);
        x.plans(0);
        due("planned(1, 1)", x.planned(1, 1), 1);
        due("paste back over itself", x.paste(0, 1, 0, 0, 5), 0);
    }
}
