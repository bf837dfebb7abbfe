import java.util.Random;

/**
 * Great trees and any arguments: no call may throw, two objects that are told the same answer the same, and what
 * is known of one answer by another holds.
 */
public final class LoftTreeFuzz {
    private static final int[] ODD = {Integer.MIN_VALUE, Integer.MIN_VALUE + 1, -2000000000, -21, -1, 0, 1, 2, 3, 4, 5, 20, 21, 39, 40, 41,
        60, 61, 99, 100, 101, 1800, 99999, 100000, Integer.MAX_VALUE - 1, Integer.MAX_VALUE};
    private static final long NEVER = Long.MIN_VALUE;
    private static final int CALLS = 50;

    private static int wrong = 0;

    private static void check(boolean holds, String what) {
        if (!holds && wrong++ < 30) {
            System.out.println("not so: " + what);
        }
    }

    public static void main(String[] args) {
        int trees = args.length > 0 ? Integer.parseInt(args[0]) : 120;
        for (int t = 0; t < trees && wrong < 30; t++) {
            Random r = new Random(t);
            String text = Oracle.random(r, 40, t % 2 == 0 ? 20 : 1 + r.nextInt(12), t % 3 == 0 ? 99 : 9).text();
            if (text.length() > 1800) {
                text = text.replaceAll("(?<=[0-9]) | (?=[0-9])", "");
            }
            if (text.length() <= 1800) {
                anyCalls(t, text);
                relations(r, text);
            }
        }
        noise();
        System.out.println(wrong == 0 ? "no call failed" : wrong + " things are not so");
        if (wrong != 0) {
            System.exit(1);
        }
    }

    private static void anyCalls(int t, String text) {
        LoftTree one = Tape.of(text);
        LoftTree other = Tape.of(text);
        Random r = new Random(t);
        Random s = new Random(t);
        for (int i = 0; i < 450; i++) {
            long a = anyCall(r, one);
            long b = anyCall(s, other);
            check(a == b, "two objects answer alike");
        }
    }

    private static int any(Random r) {
        int kind = r.nextInt(8);
        return kind == 0 ? ODD[r.nextInt(ODD.length)] : kind < 5 ? r.nextInt(4) : r.nextInt(42) - 1;
    }

    private static long anyCall(Random r, LoftTree x) {
        int a = any(r);
        int b = any(r);
        int c = any(r);
        int d = any(r);
        int e = any(r);
        switch (r.nextInt(CALLS)) {
            case 0: return x.feed(a, b, c, d, e);
            case 1: return x.end(a);
            case 2: return x.text();
            case 3: return x.fault(a);
            case 4: return x.fork(a, b);
            case 5: return x.best(a);
            case 6: return x.step(a, b);
            case 7: return x.steps();
            case 8: return x.first(a, b);
            case 9: return x.more(a, b);
            case 10: return x.ties(a);
            case 11: return x.plan(a, b, c) ? 1 : 0;
            case 12: return x.plans(a);
            case 13: return x.planned(a, b);
            case 14: return x.judge();
            case 15: return x.cost(a);
            case 16: return x.within(a);
            case 17: return x.reach(a, b);
            case 18: return x.dead(a, b);
            case 19: return x.worth(a, b, c);
            case 20: return x.unit(a);
            case 21: return x.joined();
            case 22: return x.costTo(a);
            case 23: return x.take(a);
            case 24: return x.gap(a);
            case 25: return x.know();
            case 26: return x.sooner(a);
            case 27: return x.middle();
            case 28: return x.late(a);
            case 29: return x.coin();
            case 30: return x.ruin(a);
            case 31: return x.tail(a);
            case 32: return x.lose(a);
            case 33: return x.same(a, b);
            case 34: return x.kinds();
            case 35: return x.edge(a, b, c);
            case 36: return x.rise(a);
            case 37: return x.move(a, b, c, d);
            case 38: return x.set(a, b, c);
            case 39: return x.go(a);
            case 40: return x.now(a);
            case 41: return r.nextInt(5) == 0 ? x.again() : x.now(1);
            case 42: return x.run(a * 7919 + b);
            case 43: return x.ran();
            case 44: return x.count(a);
            case 45: return x.keep(a);
            case 46: return x.back(a);
            case 47: return x.row(a, b, c);
            case 48: return x.write(a, b, c * 1000003L * d);
            default: return x.paste(a, b, c, d, e);
        }
    }

    private static void relations(Random r, String text) {
        LoftTree x = Tape.of(text);
        for (int year = 0; year < 5 && x.best(0) != NEVER; year++) {
            for (int count = 0; count <= 2; count++) {
                check(x.take(count) >= 0, "what is lawful can be taken");
                check(x.judge() == -1, "a best plan is lawful");
                check(x.cost(count) == x.best(count), "a best plan costs the least");
                check(x.planned(x.now(0), 0) == x.step(count, 0), "a best plan begins with the best step");
                check(x.ties(count) >= 1 && x.more(count, 0) >= 0, "some step is best");
            }
            check(x.cost(1) >= x.best(1) && x.cost(0) >= x.best(0), "no plan costs less than the least");
            check(x.know() >= x.sooner(x.now(0)) && x.sooner(x.now(0)) >= 0, "knowing all is worth more than knowing some");
            check(x.late(4) == 0, "widening anywhere is no bar");
            check(x.lose(4) == 0, "four years see all");
            x.take(1);
            check(x.ruin((int) Math.max(0, x.best(1))) >= 0, "a lawful plan can be ruined or not");
            check(x.coin() >= Math.max(0, x.best(1)), "the coin must cover the worst");
            int n = x.fork(x.now(0), 7);
            if (n > 0) {
                check(x.go(r.nextInt(n)) > 0, "a lawful plan goes on");
            }
        }
    }

    /** Texts with some sign changed: each is read or has a fault within it. */
    private static void noise() {
        String signs = "abcdefghijklmnopqrstuvwxyz0123456789; \n@";
        String text = "start 2;cap 5;wide 10 cost 7;hold 1;left 2;root price 3 most 4 sell 1 need 1;"
            + "fork under 0 chance 50 price 2 most 3 sell 1 need 3;fork under 0 chance 50 price 8 most 3 sell 1 need 3;";
        Random r = new Random(7);
        LoftTree x = new LoftTree();
        for (int i = 0; i < 5000; i++) {
            StringBuilder s = new StringBuilder(text);
            for (int k = r.nextInt(3); k >= 0; k--) {
                s.setCharAt(r.nextInt(s.length()), signs.charAt(r.nextInt(signs.length())));
            }
            int n = Tape.tell(x, s.toString());
            check(n == 3 ? x.fault(0) == 0 && x.fault(1) == -1 : n == -4 && x.fault(0) >= 1 && x.fault(0) <= 4, "a text or a fault: " + s);
            check(x.fault(1) <= s.length(), "the place is within: " + s);
        }
    }
}
