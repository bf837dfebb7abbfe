/** Feeds a text to the tape, as a caller would. */
final class Tape {
    private Tape() {
    }

    static void feed(LoftTree x, String text) {
        int before = x.count(2);
        for (int i = 0; i < text.length(); i += 20) {
            x.feed(four(text, i), four(text, i + 4), four(text, i + 8), four(text, i + 12), four(text, i + 16));
        }
        x.end(before + text.length());
    }

    static int tell(LoftTree x, String text) {
        feed(x, text);
        return x.text();
    }

    static LoftTree of(String text) {
        LoftTree x = new LoftTree();
        int n = tell(x, text);
        if (n < 1) {
            throw new IllegalStateException("not a text: " + n + ", " + x.fault(0) + " at " + x.fault(1) + ": " + text);
        }
        return x;
    }

    private static int four(String text, int from) {
        int v = 0;
        for (int i = from; i < from + 4; i++) {
            v = v << 8 | (i < text.length() ? text.charAt(i) & 255 : 0);
        }
        return v;
    }
}
