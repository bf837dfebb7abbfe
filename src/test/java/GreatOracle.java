import java.util.ArrayList;
import java.util.List;
import java.util.Random;

/**
 * The oracle for great trees, of which not all plans can be listed: what is least from a fork on in a state is
 * counted once and kept, each state by itself and each step looked at.
 */
final class GreatOracle extends Oracle {
    private static final int COIN = 3;

    /** A tree that a tape has room for, and on which something is lawful more often than not. */
    static GreatOracle random(Random r) {
        GreatOracle o = new GreatOracle();
        o.become(Oracle.random(r, 36, 20, r.nextInt(3) == 0 ? 3 : 40));
        o.cap = 5 + r.nextInt(16);
        o.wide = r.nextInt(21);
        o.widening = r.nextInt(4) * r.nextInt(30);
        o.hold = r.nextInt(5);
        boolean isHard = r.nextInt(5) == 0;
        for (Node n : o.nodes) {
            n.need = r.nextInt(isHard ? 12 : 4);
            n.most = Math.max(n.most, isHard ? 4 : n.need);
        }
        return o;
    }

    private void become(Oracle other) {
        start = other.start;
        cap = other.cap;
        wide = other.wide;
        widening = other.widening;
        hold = other.hold;
        left = other.left;
        for (Node n : other.nodes) {
            nodes.add(n.copy());
        }
        for (int i = 0; i < 40; i++) {
            plan[i] = other.plan[i].clone();
        }
        fork = other.fork;
        stock = other.stock;
        isWide = other.isWide;
        spent = other.spent;
        years = other.years;
    }

    @Override
    Oracle copy() {
        GreatOracle o = new GreatOracle();
        o.become(this);
        return o;
    }

    /** What is least of one count from each fork on in each state, as far as it was asked for. */
    private final class Leasts {
        final int count;
        final Long[] least = new Long[40 * 42];
        final boolean[] done = new boolean[40 * 42];
        final Integer[] spared = new Integer[40];

        Leasts(int count) {
            this.count = count;
        }

        Long of(int f, int s, int w) {
            int at = f * 42 + w * 21 + s;
            if (!done[at]) {
                done[at] = true;
                least[at] = f == known && !isEnd(f) ? sooner(f, s, w) : search(f, s, w);
            }
            return least[at];
        }

        private Long search(int f, int s, int w) {
            Long low = null;
            for (int[] step : lawfulSteps(f, s, w)) {
                low = lesser(low, by(f, s, w, step));
            }
            return low != null && count == COIN ? Long.valueOf(Math.max(0, low)) : low;
        }

        private Long sooner(int f, int s, int w) {
            long sum = 0;
            for (int k : nodes.get(f).kids) {
                Long low = null;
                for (int[] step : lawfulSteps(f, s, w)) {
                    Long rest = of(k, s + step[0] - nodes.get(f).need, w | step[1]);
                    if (rest != null) {
                        low = lesser(low, rest + costOf(f, s, step[0], step[1]) * power(100, 4 - nodes.get(k).far));
                    }
                }
                if (low == null) {
                    return null;
                }
                sum += low * nodes.get(k).chance;
            }
            return sum;
        }

        /** What a step comes to, all best behind it; null if nothing is lawful there. */
        Long by(int f, int s, int w, int[] step) {
            long cost = costOf(f, s, step[0], step[1]);
            if (isEnd(f)) {
                return count == 0 ? cost * power(100, 4 - nodes.get(f).far) : count == 2 ? cost - spared(f) : cost;
            }
            long mean = 0;
            long most = NEVER;
            for (int k : nodes.get(f).kids) {
                Long rest = of(k, s + step[0] - nodes.get(f).need, w | step[1]);
                if (rest == null) {
                    return null;
                }
                mean += rest * nodes.get(k).chance;
                most = Math.max(most, rest);
            }
            return count == 0 ? mean + cost * power(100, 4 - nodes.get(f).far) : most + cost;
        }

        private int spared(int e) {
            if (spared[e] == null) {
                Integer least = leastTo(fork, stock, isWide, e);
                spared[e] = least == null ? 0 : least;
            }
            return spared[e];
        }

        private Long lesser(Long a, Long b) {
            return a == null || b != null && b < a ? b : a;
        }
    }

    @Override
    List<Offer> offers(int count, int f, int s, int w) {
        Leasts leasts = new Leasts(count);
        List<Offer> all = new ArrayList<>();
        for (int[] step : lawfulSteps(f, s, w)) {
            Long value = leasts.by(f, s, w, step);
            if (value != null) {
                Offer o = new Offer();
                o.x = step[0];
                o.b = step[1];
                o.least = value;
                all.add(o);
            }
        }
        return all;
    }

    @Override
    Integer leastOn(List<Integer> way, int i, int s, int w) {
        return leastOn(way, i, s, w, new Integer[way.size() * 42], new boolean[way.size() * 42]);
    }

    private Integer leastOn(List<Integer> way, int i, int s, int w, Integer[] least, boolean[] done) {
        if (i == way.size()) {
            return 0;
        }
        int at = i * 42 + w * 21 + s;
        if (!done[at]) {
            done[at] = true;
            int f = way.get(i);
            for (int[] step : lawfulSteps(f, s, w)) {
                Integer rest = leastOn(way, i + 1, s + step[0] - nodes.get(f).need, w | step[1], least, done);
                if (rest != null && (least[at] == null || rest + costOf(f, s, step[0], step[1]) < least[at])) {
                    least[at] = rest + costOf(f, s, step[0], step[1]);
                }
            }
        }
        return least[at];
    }

    @Override
    long leastKnowing(int f) {
        known = f;
        Long low = new Leasts(0).of(fork, stock, isWide);
        known = NONE;
        return low;
    }

    @Override
    long coin() {
        Long low = new Leasts(COIN).of(fork, stock, isWide);
        return low == null ? NEVER : low;
    }
}
