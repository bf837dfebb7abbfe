import java.util.ArrayList;
import java.util.List;

/**
 * Tests that each name a promise and one of its sentences, word by word as the document has it (number 0: the
 * Terms). A test that asks nothing, or in which something is thrown, fails. The lists of tests extend this class, so
 * that they need not name it in each line.
 */
abstract class Sentences extends Texts {
    static final int TERMS = 0;
    static final int PROMISES = 51;
    static final int NONE = -1;
    static final int NOTHING = -2000000000;
    static final long NEVER = Long.MIN_VALUE;
    static final int MIN = Integer.MIN_VALUE;
    static final int MAX = Integer.MAX_VALUE;
    static final long E2 = 100L;
    static final long E4 = 10000L;
    static final long E6 = 1000000L;
    static final long E8 = 100000000L;
    static final int[] NO_COUNTS = {-1, 3, 4, MIN, MAX};
    static final int[] NO_FLAGS = {-1, 2, 3, MIN, MAX};

    private static final List<List<String>> QUOTES = new ArrayList<>();
    private static int tests = 0;
    private static int failed = 0;
    private static int asked = 0;
    private static int wrong = 0;
    private static int promise = 0;
    private static String sentence = "";

    static void test(int number, String words, Runnable body) {
        promise = number;
        sentence = words;
        asked = 0;
        wrong = 0;
        quotes(number).add(words);
        try {
            body.run();
        } catch (RuntimeException thrown) {
            complain("threw " + thrown);
        }
        if (asked == 0) {
            complain("asked nothing");
        }
        tests++;
        failed += wrong > 0 ? 1 : 0;
    }

    static void due(String call, long got, long want) {
        asked++;
        if (got != want) {
            complain(call + " answered " + got + ", due is " + want);
        }
    }

    static void due(String call, boolean got, boolean want) {
        due(call, got ? 1 : 0, want ? 1 : 0);
    }

    /** The text has that fault at that place. */
    static void fails(String text, int fault, int place) {
        LoftTree x = new LoftTree();
        due("text() of " + text, Tape.tell(x, text), -4);
        due("fault(0) of " + text, x.fault(0), fault);
        due("fault(1) of " + text, x.fault(1), place);
    }

    /** The text has no fault and so many forks. */
    static LoftTree reads(String text, int forks) {
        LoftTree x = new LoftTree();
        due("text() of " + text, Tape.tell(x, text), forks);
        due("fault(0) of " + text, x.fault(0), 0);
        due("fault(1) of " + text, x.fault(1), NONE);
        return x;
    }

    /** The step is put into the plan where one is, and done; what go answers. */
    static int goBy(LoftTree x, int step, int widen, int i) {
        x.plan(x.now(0), step, widen);
        return x.go(i);
    }

    static List<String> quotes(int number) {
        while (QUOTES.size() <= number) {
            QUOTES.add(new ArrayList<>());
        }
        return QUOTES.get(number);
    }

    static int tests() {
        return tests;
    }

    static int failed() {
        return failed;
    }

    private static void complain(String what) {
        wrong++;
        if (wrong <= 5) {
            String where = promise == TERMS ? "Terms" : "promise " + promise;
            System.out.println(where + ", \"" + sentence + "\": " + what);
        }
    }
}
