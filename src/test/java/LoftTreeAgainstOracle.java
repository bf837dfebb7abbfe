import java.util.Random;

/** Many small trees, each call held against the list of all plans; and some great ones. */
public final class LoftTreeAgainstOracle {
    private static int wrong = 0;
    private static long asked = 0;
    // how far what is asked goes: stocks, and numbers of a fork
    private static int stocks = 4;
    private static int amounts = 4;

    private static void due(Oracle o, String call, long got, long want) {
        asked++;
        if (got != want && wrong++ < 30) {
            System.out.println(call + " answered " + got + ", due is " + want + "; " + o);
        }
    }

    public static void main(String[] args) {
        int trees = args.length > 0 ? Integer.parseInt(args[0]) : 400;
        long seed = args.length > 1 ? Long.parseLong(args[1]) : 1;
        for (int t = 0; t < trees && wrong < 30; t++) {
            oneTree(new Random(seed * 1000003 + t), t);
        }
        stocks = 21;
        amounts = 12;
        for (int t = 0; t < trees / 10 && wrong < 30; t++) {
            Random r = new Random(seed * 1000003 + t);
            held(r, GreatOracle.random(r), 2);
        }
        System.out.println(wrong == 0 ? "all " + asked + " answers are as the oracle's" : wrong + " answers are not as the oracle's");
        if (wrong != 0) {
            System.exit(1);
        }
    }

    private static void oneTree(Random r, int t) {
        int most = 1 + t % 7;
        int room = most <= 4 ? 3 : most == 5 ? 2 : 1;
        held(r, Oracle.random(r, most, room, r.nextInt(3) == 0 ? 2 : 9), 4);
    }

    private static void held(Random r, Oracle o, int rounds) {
        LoftTree x = new LoftTree();
        due(o, "text()", Tape.tell(x, o.text()), o.nodes.size());
        Oracle kept = null;
        for (int round = 0; round < rounds; round++) {
            telling(r, o, x);
            asking(r, o, x);
            planning(r, o, x);
            if (round == 1) {
                kept = o.copy();
                due(o, "keep(2)", x.keep(2), 0);
            }
            changing(r, o, x);
        }
        due(o, "back(2)", x.back(2), 0);
        planning(r, kept, x);
        asking(r, kept, x);
    }

    private static int someFork(Random r, Oracle o) {
        return r.nextInt(o.nodes.size() + 2) - 1;
    }

    private static void telling(Random r, Oracle o, LoftTree x) {
        for (int i = 0; i < 6; i++) {
            int f = someFork(r, o);
            int px = r.nextInt(2 * stocks - 1) - stocks + 1;
            int pb = r.nextInt(10) == 0 ? 2 : r.nextInt(4) / 3;
            due(o, "plan(" + f + ", " + px + ", " + pb + ")", x.plan(f, px, pb) ? 1 : 0, o.tellPlan(f, px, pb) ? 1 : 0);
        }
        if (r.nextInt(3) > 0) {
            int c = r.nextInt(4);
            due(o, "take(" + c + ")", x.take(c), o.take(c));
        }
    }

    private static void asking(Random r, Oracle o, LoftTree x) {
        for (int c = 0; c <= 3; c++) {
            due(o, "best(" + c + ")", x.best(c), o.best(c));
            due(o, "step(" + c + ", 0)", x.step(c, 0), o.step(c, 0));
            due(o, "step(" + c + ", 1)", x.step(c, 1), o.step(c, 1));
            due(o, "ties(" + c + ")", x.ties(c), o.ties(c));
            int i = r.nextInt(2 * stocks + 1) - 1;
            due(o, "more(" + c + ", " + i + ")", x.more(c, i), o.more(c, i));
        }
        due(o, "steps()", x.steps(), o.offersNow(0).size());
        for (int i = -1; i <= o.offersNow(0).size(); i++) {
            boolean is = i >= 0 && i < o.offersNow(0).size();
            due(o, "first(" + i + ", 0)", x.first(i, 0), is ? o.offersNow(0).get(i).x : Oracle.NOTHING);
            due(o, "first(" + i + ", 1)", x.first(i, 1), is ? o.offersNow(0).get(i).b : Oracle.NOTHING);
        }
        due(o, "know()", x.know(), o.know());
        due(o, "middle()", x.middle(), o.middle());
        due(o, "coin()", x.coin(), o.coin());
        for (int far = 0; far <= 5; far++) {
            due(o, "late(" + far + ")", x.late(far), o.late(far));
            due(o, "lose(" + far + ")", x.lose(far), o.lose(far));
        }
        for (int f = -1; f <= o.nodes.size(); f++) {
            due(o, "sooner(" + f + ")", x.sooner(f), o.sooner(f));
            int w = r.nextInt(3);
            due(o, "reach(" + f + ", " + w + ")", x.reach(f, w), o.reach(f, w));
            due(o, "dead(" + f + ", " + w + ")", x.dead(f, w), o.dead(f, w));
            int s = r.nextInt(stocks);
            due(o, "worth(" + f + ", " + s + ", " + w + ")", x.worth(f, s, w), o.worth(f, s, w));
            int what = r.nextInt(14) - 1;
            due(o, "fork(" + f + ", " + what + ")", x.fork(f, what), o.forkNumber(f, what));
        }
        int f = someFork(r, o);
        due(o, "rise(" + f + ")", x.rise(f), o.rise(f));
        int g = someFork(r, o);
        due(o, "same(" + f + ", " + g + ")", x.same(f, g), o.same(f, g));
        due(o, "kinds()", x.kinds(), o.kinds());
        due(o, "joined()", x.joined(), o.joined());
        int e = r.nextInt(o.nodes.size());
        for (int i = 0; i < 3; i++) {
            int a = r.nextInt(3);
            int b = r.nextInt(3);
            due(o, "edge(" + e + ", " + a + ", " + b + ")", x.edge(e, a, b), o.edge(e, a, b));
        }
    }

    private static void planning(Random r, Oracle o, LoftTree x) {
        due(o, "judge()", x.judge(), o.judge());
        for (int c = 0; c <= 3; c++) {
            due(o, "cost(" + c + ")", x.cost(c), o.cost(c));
        }
        int[] some = {0, 1, 10, 50, 51, 99, 100, 101, 1 + r.nextInt(100)};
        for (int n : some) {
            due(o, "within(" + n + ")", x.within(n), o.within(n));
            due(o, "tail(" + n + ")", x.tail(n), o.tail(n));
        }
        for (int coin = -1; coin < 40; coin += 1 + r.nextInt(4)) {
            due(o, "ruin(" + coin + ")", x.ruin(coin), o.ruin(coin));
        }
        for (int f = -1; f <= o.nodes.size(); f++) {
            due(o, "costTo(" + f + ")", x.costTo(f), o.costTo(f));
            due(o, "gap(" + f + ")", x.gap(f), o.gap(f));
            due(o, "unit(" + f + ")", x.unit(f), o.unit(f));
            for (int what = -1; what <= 4; what++) {
                due(o, "planned(" + f + ", " + what + ")", x.planned(f, what), o.planned(f, what));
            }
        }
        for (int i = 0; i < 5; i++) {
            int seed = r.nextInt();
            int end = o.run(seed);
            due(o, "run(" + seed + ")", x.run(seed), end);
            if (end >= 0) {
                due(o, "ran()", x.ran(), o.leaves(end)[2]);
            }
        }
        for (int what = -1; what <= 5; what++) {
            due(o, "now(" + what + ")", x.now(what), o.now(what));
        }
    }

    private static void changing(Random r, Oracle o, LoftTree x) {
        int f = someFork(r, o);
        switch (r.nextInt(6)) {
            case 0:
                int what = r.nextInt(6) - 1;
                int v = r.nextInt(12) == 0 ? 21 : r.nextInt(amounts);
                due(o, "set(" + f + ", " + what + ", " + v + ")", x.set(f, what, v), o.set(f, what, v));
                break;
            case 1:
            case 2:
                int i = r.nextInt(3);
                int j = r.nextInt(3);
                int n = r.nextInt(3) == 0 ? 100 : r.nextInt(60);
                if (r.nextInt(3) == 0 && o.has(f) && o.forkNumber(f, 8 + i) >= 0) {
                    n = o.forkNumber(o.forkNumber(f, 8 + i), 1);
                }
                due(o, "move(" + f + ", " + i + ", " + j + ", " + n + ")", x.move(f, i, j, n), o.move(f, i, j, n));
                break;
            case 3:
                int gone = o.years;
                o.restart();
                due(o, "again()", x.again(), gone);
                break;
            default:
                int k = r.nextInt(3);
                due(o, "go(" + k + ")", x.go(k), o.go(k));
        }
    }
}
