import java.util.ArrayList;
import java.util.List;
import java.util.regex.Matcher;
import java.util.regex.Pattern;

/**
 * The Terms about a text once more: lines told as patterns, and each token held against what may stand there. All
 * faults of a token are gathered, and the least is taken. It shares nothing with LoftTree but the document.
 */
final class TextOracle {
    private static final String DOES = " price #99 most #20 sell #99 need #20 ;";
    private static final String[] LINES = {"start #20 ;", "cap #20 ;", "wide #20 cost #999 ;", "hold #99 ;", "left #99 ;",
        "root" + DOES, "fork under F chance C" + DOES};
    private static final int ROOT = 5;
    private static final int FORK = 6;

    private static final class Token {
        final String sign;
        final int place;

        Token(String sign, int place) {
            this.sign = sign;
            this.place = place;
        }
    }

    int fault = 0;
    int place = -1;
    /** Of each line its numbers, in their order; those of the first five by their place in LINES. */
    final List<List<Integer>> first = new ArrayList<>();
    final List<List<Integer>> forks = new ArrayList<>();
    private final List<Integer> wordOfFork = new ArrayList<>();
    private final List<Token> tokens = new ArrayList<>();

    TextOracle(String text) {
        Matcher m = Pattern.compile("[a-z]+|[0-9]+|[^ \n]", Pattern.DOTALL).matcher(text);
        while (m.find()) {
            tokens.add(new Token(m.group(), m.start()));
        }
        tokens.add(new Token("", text.length()));
        for (int i = 0; i < ROOT; i++) {
            first.add(null);
        }
        int at = 0;
        while (fault == 0 && at >= 0) {
            at = line(at);
        }
        if (fault == 0) {
            chances();
        }
    }

    private void found(int code, Token where) {
        if (fault == 0) {
            fault = code;
            place = where.place;
        }
    }

    /** Where the next line begins; below 0 if the text has ended. */
    private int line(int at) {
        Token word = tokens.get(at);
        if (word.sign.isEmpty()) {
            if (forks.isEmpty()) {
                found(1, word);
            }
            return -1;
        }
        int kind = 0;
        while (kind < LINES.length && !LINES[kind].split(" ")[0].equals(word.sign)) {
            kind++;
        }
        boolean isRootTold = !forks.isEmpty();
        if (kind == LINES.length || kind < ROOT && isRootTold || kind == FORK && !isRootTold) {
            found(1, word);
        } else if (kind < ROOT && first.get(kind) != null || kind == ROOT && isRootTold || kind == FORK && forks.size() == 40) {
            found(3, word);
        }
        return fault == 0 ? rest(at, kind) : -1;
    }

    private int rest(int at, int kind) {
        String[] pattern = LINES[kind].split(" ");
        List<Integer> numbers = new ArrayList<>();
        for (int i = 1; i < pattern.length && fault == 0; i++) {
            Token token = tokens.get(at + i);
            char sort = pattern[i].charAt(0);
            if (sort == '#' || sort == 'F' || sort == 'C') {
                number(token, pattern[i], numbers);
            } else if (!token.sign.equals(pattern[i])) {
                found(1, token);
            }
        }
        if (kind < ROOT) {
            first.set(kind, numbers);
        } else {
            forks.add(numbers);
            wordOfFork.add(tokens.get(at).place);
        }
        return at + pattern.length;
    }

    private void number(Token token, String pattern, List<Integer> numbers) {
        if (!token.sign.matches("[0-9]+")) {
            found(1, token);
            return;
        }
        java.math.BigInteger amount = new java.math.BigInteger(token.sign);
        int v = amount.bitLength() > 20 ? 1000000 : amount.intValue();
        boolean holds = pattern.equals("F") ? mayHaveMore(v)
            : pattern.equals("C") ? v >= 1 && v <= 100 : v <= Integer.parseInt(pattern.substring(1));
        if (!holds) {
            found(2, token);
        }
        numbers.add(v);
    }

    int under(int f) {
        return f == 0 ? -1 : forks.get(f).get(0);
    }

    int far(int f) {
        return f == 0 ? 0 : far(under(f)) + 1;
    }

    List<Integer> kids(int f) {
        List<Integer> all = new ArrayList<>();
        for (int k = 1; k < forks.size(); k++) {
            if (under(k) == f) {
                all.add(k);
            }
        }
        return all;
    }

    private boolean mayHaveMore(int f) {
        return f < forks.size() && far(f) < 4 && kids(f).size() < 5;
    }

    private void chances() {
        for (int f = 0; f < forks.size() && fault == 0; f++) {
            int sum = 0;
            for (int k : kids(f)) {
                sum += forks.get(k).get(1);
            }
            if (!kids(f).isEmpty() && sum != 100) {
                fault = 4;
                place = wordOfFork.get(kids(f).get(0));
            }
        }
    }

    int told(int line, int i) {
        return first.get(line) == null ? 0 : first.get(line).get(i);
    }
}
