import java.util.ArrayList;
import java.util.Arrays;
import java.util.List;
import java.util.Random;

/** Texts with something changed in them: each is read as the oracle reads it, or has the oracle's fault. */
public final class LoftTreeTextsAgainstOracle {
    private static final String[] TOKENS = {"start", "cap", "wide", "cost", "hold", "left", "root", "fork", "under", "chance", "price", "most",
        "sell", "need", ";", "0", "1", "4", "5", "19", "20", "21", "39", "40", "41", "50", "99", "100", "101", "999", "1000", "007",
        "4294967297", "99999999999999999999", "roots", "k", "A", "-", ";;", "\t", "\u00e9", "\n"};
    private static final int NOTHING = -2000000000;

    private static int wrong = 0;
    private static final int[] seen = new int[5];

    private static void due(String text, String call, long got, long want) {
        if (got != want && wrong++ < 20) {
            System.out.println(call + " answered " + got + ", due is " + want + "; " + text);
        }
    }

    public static void main(String[] args) {
        int texts = args.length > 0 ? Integer.parseInt(args[0]) : 20000;
        Random r = new Random(args.length > 1 ? Long.parseLong(args[1]) : 1);
        LoftTree x = Tape.of("start 3;cap 9;root price 1 most 2 sell 3 need 1;");
        x.plan(0, 2, 1);
        for (int t = 0; t < texts && wrong == 0; t++) {
            String text = changed(r, text(r));
            if (text.length() <= 1800) {
                read(x, text);
            }
        }
        for (int fault = 0; fault <= 4; fault++) {
            due("", "how often fault " + fault + " is above 100", texts < 20000 || seen[fault] > 100 ? 1 : 0, 1);
        }
        System.out.println(wrong == 0 ? "texts, and faults 1 to 4: " + Arrays.toString(seen) : wrong + " answers are not as the oracle's");
        if (wrong != 0) {
            System.exit(1);
        }
    }

    private static void read(LoftTree x, String text) {
        TextOracle o = new TextOracle(text);
        long before = digest(x);
        seen[o.fault]++;
        due(text, "text()", Tape.tell(x, text), o.fault == 0 ? o.forks.size() : -4);
        due(text, "fault(0)", x.fault(0), o.fault);
        due(text, "fault(1)", x.fault(1), o.place);
        due(text, "count(2)", x.count(2), 0);
        if (o.fault != 0) {
            due(text, "what stays", digest(x), before);
            return;
        }
        int[] head = {o.told(0, 0), o.told(1, 0), o.told(2, 0), o.told(2, 1), o.told(3, 0), o.told(4, 0)};
        for (int i = 0; i < 6; i++) {
            due(text, "count(" + (4 + i) + ")", x.count(4 + i), head[i]);
        }
        for (int f = 0; f < o.forks.size(); f++) {
            fork(x, text, o, f);
        }
        due(text, "now(1)", x.now(1), head[0]);
        // so that there is something to stay
        x.plan(0, 1, 0);
        x.go(0);
    }

    private static void fork(LoftTree x, String text, TextOracle o, int f) {
        List<Integer> numbers = o.forks.get(f);
        List<Integer> kids = o.kids(f);
        List<Integer> due = new ArrayList<>(List.of(o.under(f), f == 0 ? 0 : numbers.get(1)));
        due.addAll(numbers.subList(f == 0 ? 0 : 2, numbers.size()));
        due.add(o.far(f));
        due.add(kids.size());
        due.addAll(kids);
        due.add(NOTHING);
        for (int what = 0; what < due.size(); what++) {
            due(text, "fork(" + f + ", " + what + ")", x.fork(f, what), due.get(what));
        }
        due(text, "planned(" + f + ", 0)", x.planned(f, 0), 0);
        due(text, "planned(" + f + ", 1)", x.planned(f, 1), 0);
    }

    private static long digest(LoftTree x) {
        long sum = 0;
        for (int what = 0; what <= 10; what++) {
            sum = sum * 31 + (what == 2 ? 0 : x.count(what));
            sum = sum * 31 + x.now(what);
        }
        for (int f = 0; f < x.count(0); f++) {
            for (int what = 0; what <= 13; what++) {
                sum = sum * 31 + x.fork(f, what);
            }
            for (int what = 0; what <= 3; what++) {
                sum = sum * 31 + x.planned(f, what);
            }
        }
        return sum;
    }

    private static String text(Random r) {
        int kind = r.nextInt(10);
        if (kind > 0) {
            return Oracle.random(r, kind < 7 ? 5 : 20, 20, 99).text();
        }
        // one with as many forks as there may be, or one more
        StringBuilder s = new StringBuilder("root price0most0sell0need0;");
        int forks = 39 + r.nextInt(3);
        for (int f = 1; f < forks; f++) {
            int under = f <= 5 ? 0 : (f - 1) / 5;
            boolean isLast = f % 5 == 0 || f == forks - 1;
            s.append("fork under").append(under).append("chance").append(isLast ? 100 - (f - 1) % 5 * 20 : 20);
            s.append("price0most0sell0need0;");
        }
        return s.toString();
    }

    private static String changed(Random r, String text) {
        String out = text;
        for (int n = r.nextInt(3); n > 0; n--) {
            int kind = r.nextInt(4);
            out = kind == 0 ? changedByte(r, out) : kind == 1 ? changedLine(r, out) : changedToken(r, out);
        }
        return r.nextInt(20) == 0 ? out.substring(0, r.nextInt(out.length() + 1)) : out;
    }

    private static String changedByte(Random r, String text) {
        int i = r.nextInt(text.length() + 1);
        String sign = String.valueOf((char) (r.nextBoolean() ? r.nextInt(256) : "az09; \n".charAt(r.nextInt(7))));
        return text.substring(0, i) + sign + text.substring(r.nextBoolean() ? i : Math.min(text.length(), i + 1));
    }

    private static List<String> parts(String text, String pattern) {
        return new ArrayList<>(Arrays.asList(text.split(pattern)));
    }

    private static void change(Random r, List<String> parts, String other) {
        int i = r.nextInt(parts.size());
        switch (r.nextInt(4)) {
            case 0:
                parts.remove(i);
                break;
            case 1:
                parts.add(i, parts.get(r.nextInt(parts.size())));
                break;
            case 2:
                parts.add(r.nextInt(parts.size()), parts.remove(i));
                break;
            default:
                parts.set(i, other);
        }
    }

    private static String changedLine(Random r, String text) {
        List<String> lines = parts(text, "(?<=;)");
        change(r, lines, "hold 1;");
        return String.join("", lines);
    }

    private static String changedToken(Random r, String text) {
        List<String> tokens = parts(text, " |(?<=[a-z])(?![a-z])|(?<=[0-9])(?![0-9])|(?<=;)");
        int i = r.nextInt(tokens.size());
        String other = TOKENS[r.nextInt(TOKENS.length)];
        if (r.nextBoolean()) {
            // a number for a number, so that the text goes on
            while (!tokens.get(i).matches("[0-9]+") && i < tokens.size() - 1) {
                i++;
            }
            tokens.set(i, String.valueOf(r.nextInt(4) == 0 ? r.nextInt(1100) : r.nextInt(102)));
        } else {
            change(r, tokens, other);
        }
        return String.join(" ", tokens);
    }
}
