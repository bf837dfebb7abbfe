import java.util.ArrayList;
import java.util.Arrays;
import java.util.List;
import java.util.Random;
import java.util.TreeMap;

/**
 * The document once more, told as plainly as can be: it lists every plan there is and looks at each. It is
 * only fit for small trees. It shares nothing with LoftTree but the document.
 */
class Oracle implements Cloneable {
    static final int NONE = -1;
    static final int NOTHING = -2000000000;
    static final long NEVER = Long.MIN_VALUE;

    static final class Node implements Cloneable {
        int under, chance, price, most, sell, need, far;
        List<Integer> kids = new ArrayList<>();

        Node copy() {
            Node n = new Node();
            n.under = under;
            n.chance = chance;
            n.price = price;
            n.most = most;
            n.sell = sell;
            n.need = need;
            n.far = far;
            n.kids = new ArrayList<>(kids);
            return n;
        }
    }

    /** A plan from some fork on: its first step, and to each end the costs of the steps on the way. */
    static final class Whole {
        int x, b;
        TreeMap<Integer, List<Integer>> ways = new TreeMap<>();
    }

    int start, cap, wide, widening, hold, left;
    List<Node> nodes = new ArrayList<>();
    int[][] plan = new int[40][2];
    int fork, stock, isWide, spent, years;

    // how the listing of plans is bent for late, lose and sooner
    int widenTo = 4;
    int endAt = 5;
    int known = NONE;

    static Oracle fresh() {
        Oracle o = new Oracle();
        Node n = new Node();
        n.under = NONE;
        o.nodes.add(n);
        return o;
    }

    Oracle copy() {
        Oracle o = new Oracle();
        o.start = start;
        o.cap = cap;
        o.wide = wide;
        o.widening = widening;
        o.hold = hold;
        o.left = left;
        for (Node n : nodes) {
            o.nodes.add(n.copy());
        }
        for (int i = 0; i < 40; i++) {
            o.plan[i] = plan[i].clone();
        }
        o.fork = fork;
        o.stock = stock;
        o.isWide = isWide;
        o.spent = spent;
        o.years = years;
        return o;
    }

    static Oracle random(Random r, int most, int room, int price) {
        Oracle o = new Oracle();
        o.start = r.nextInt(room + 1);
        o.cap = r.nextInt(room + 1);
        o.wide = Math.min(20, o.cap + r.nextInt(2));
        o.widening = r.nextInt(6);
        o.hold = r.nextInt(3);
        o.left = r.nextInt(price + 1);
        int n = 1 + r.nextInt(most);
        for (int f = 0; f < n; f++) {
            Node node = new Node();
            node.under = NONE;
            if (f > 0) {
                int p = r.nextInt(f);
                if (o.nodes.get(p).far == 4 || o.nodes.get(p).kids.size() == 5) {
                    break;
                }
                node.under = p;
                node.far = o.nodes.get(p).far + 1;
                o.nodes.get(p).kids.add(f);
            }
            node.price = r.nextInt(price + 1);
            node.sell = r.nextInt(price + 1);
            node.most = Math.min(20, r.nextInt(room + 2));
            node.need = r.nextInt(3) == 0 ? r.nextInt(room + 1) : r.nextInt(2);
            if (r.nextInt(4) == 0 && f > 1) {
                Node like = o.nodes.get(r.nextInt(f - 1) + 1);
                node.price = like.price;
                node.sell = like.sell;
                node.most = like.most;
                node.need = like.need;
            }
            o.nodes.add(node);
        }
        for (Node node : o.nodes) {
            int rest = 100;
            for (int i = 0; i < node.kids.size(); i++) {
                int more = node.kids.size() - 1 - i;
                int c = more == 0 ? rest : r.nextInt(3) == 0 ? rest / (more + 1) : 1 + r.nextInt(rest - more);
                o.nodes.get(node.kids.get(i)).chance = c;
                rest -= c;
            }
        }
        o.restart();
        return o;
    }

    String text() {
        StringBuilder s = new StringBuilder();
        s.append("start ").append(start).append(";cap ").append(cap).append(";wide ").append(wide).append(" cost ")
            .append(widening).append(";hold ").append(hold).append(";left ").append(left).append(";");
        for (Node n : nodes) {
            if (n.under == NONE) {
                s.append("root");
            } else {
                s.append("fork under ").append(n.under).append("chance").append(n.chance);
            }
            s.append(" price").append(n.price).append("most").append(n.most).append(" sell ").append(n.sell)
                .append("need").append(n.need).append(";");
        }
        return s.toString();
    }

    void restart() {
        fork = 0;
        stock = start;
        isWide = 0;
        spent = 0;
        years = 0;
    }

    boolean has(int f) {
        return f >= 0 && f < nodes.size();
    }

    boolean ahead(int f) {
        for (int g = f; has(g); g = nodes.get(g).under) {
            if (g == fork) {
                return true;
            }
        }
        return false;
    }

    boolean isEnd(int f) {
        return nodes.get(f).kids.isEmpty() || nodes.get(f).far >= endAt;
    }

    boolean lawful(int f, int s, int w, long x, long b) {
        Node n = nodes.get(f);
        if (b != 0 && b != 1) {
            return false;
        }
        long then = s + x - n.need;
        return x <= n.most && x + s >= 0 && (b == 0 || w == 0) && then >= 0 && then <= (w == 1 || b == 1 ? wide : cap);
    }

    int costOf(int f, int s, int x, int b) {
        Node n = nodes.get(f);
        int then = s + x - n.need;
        int c = x > 0 ? x * n.price : x * n.sell;
        if (b == 1) {
            c += widening;
        }
        c += hold * then;
        if (isEnd(f)) {
            c -= left * then;
        }
        return c;
    }

    List<int[]> lawfulSteps(int f, int s, int w) {
        List<int[]> all = new ArrayList<>();
        for (int b = 0; b <= 1; b++) {
            for (int x = -20; x <= 20; x++) {
                if (lawful(f, s, w, x, b) && (b == 0 || nodes.get(f).far <= widenTo)) {
                    all.add(new int[] {x, b});
                }
            }
        }
        return all;
    }

    /** Every plan from f on in a state. */
    List<Whole> wholes(int f, int s, int w) {
        if (f == known && !isEnd(f)) {
            return knownWholes(f, s, w);
        }
        List<Whole> all = new ArrayList<>();
        for (int[] step : lawfulSteps(f, s, w)) {
            int c = costOf(f, s, step[0], step[1]);
            int then = s + step[0] - nodes.get(f).need;
            int wideThen = w | step[1];
            List<Whole> some = new ArrayList<>();
            Whole one = new Whole();
            if (isEnd(f)) {
                one.ways.put(f, List.of());
            }
            some.add(one);
            if (!isEnd(f)) {
                for (int k : nodes.get(f).kids) {
                    some = cross(some, wholes(k, then, wideThen));
                }
            }
            for (Whole v : some) {
                all.add(ahead(v, step[0], step[1], c));
            }
        }
        return all;
    }

    private List<Whole> knownWholes(int f, int s, int w) {
        List<Whole> some = new ArrayList<>();
        some.add(new Whole());
        for (int k : nodes.get(f).kids) {
            List<Whole> ofKid = new ArrayList<>();
            for (int[] step : lawfulSteps(f, s, w)) {
                for (Whole v : wholes(k, s + step[0] - nodes.get(f).need, w | step[1])) {
                    ofKid.add(ahead(v, step[0], step[1], costOf(f, s, step[0], step[1])));
                }
            }
            some = cross(some, ofKid);
        }
        return some;
    }

    private static Whole ahead(Whole v, int x, int b, int c) {
        Whole n = new Whole();
        n.x = x;
        n.b = b;
        for (int e : v.ways.keySet()) {
            List<Integer> way = new ArrayList<>();
            way.add(c);
            way.addAll(v.ways.get(e));
            n.ways.put(e, way);
        }
        return n;
    }

    private static List<Whole> cross(List<Whole> a, List<Whole> b) {
        List<Whole> all = new ArrayList<>();
        for (Whole p : a) {
            for (Whole q : b) {
                Whole n = new Whole();
                n.ways.putAll(p.ways);
                n.ways.putAll(q.ways);
                all.add(n);
            }
        }
        return all;
    }

    static long power(int base, int n) {
        long p = 1;
        for (int i = 0; i < n; i++) {
            p *= base;
        }
        return p;
    }

    static int sum(List<Integer> way) {
        int s = 0;
        for (int c : way) {
            s += c;
        }
        return s;
    }

    /** The chance of e from top on, in parts of 100 to the "hundreds". */
    long chanceOf(int e, int top, int hundreds) {
        long p = 1;
        int n = 0;
        for (int g = e; g != top; g = nodes.get(g).under) {
            p *= nodes.get(g).chance;
            n++;
        }
        return p * power(100, hundreds - n);
    }

    /** The least cost of any steps on the way from a fork in a state to e alone; null if there are none. */
    Integer leastTo(int top, int s, int w, int e) {
        List<Integer> way = new ArrayList<>();
        for (int g = e; g != top; g = nodes.get(g).under) {
            way.add(0, g);
        }
        way.add(0, top);
        return leastOn(way, 0, s, w);
    }

    Integer leastOn(List<Integer> way, int i, int s, int w) {
        if (i == way.size()) {
            return 0;
        }
        Integer low = null;
        int f = way.get(i);
        for (int[] step : lawfulSteps(f, s, w)) {
            Integer rest = leastOn(way, i + 1, s + step[0] - nodes.get(f).need, w | step[1]);
            if (rest != null && (low == null || rest + costOf(f, s, step[0], step[1]) < low)) {
                low = rest + costOf(f, s, step[0], step[1]);
            }
        }
        return low;
    }

    long measure(int count, Whole v, int top) {
        long all = count == 0 ? 0 : NEVER;
        for (int e : v.ways.keySet()) {
            int c = sum(v.ways.get(e));
            if (count == 0) {
                all += c * chanceOf(e, top, 4 - nodes.get(top).far);
            } else if (count == 1) {
                all = Math.max(all, c);
            } else {
                all = Math.max(all, c - leastTo(fork, stock, isWide, e));
            }
        }
        return all;
    }

    static final class Offer {
        int x, b;
        long least;
    }

    /** Steps at a fork in a state behind which something is lawful, with the least of a count. */
    List<Offer> offers(int count, int f, int s, int w) {
        List<Offer> all = new ArrayList<>();
        for (Whole v : wholes(f, s, w)) {
            long m = measure(count, v, f);
            Offer last = all.isEmpty() ? null : all.get(all.size() - 1);
            if (last == null || last.x != v.x || last.b != v.b) {
                last = new Offer();
                last.x = v.x;
                last.b = v.b;
                last.least = m;
                all.add(last);
            }
            last.least = Math.min(last.least, m);
        }
        return all;
    }

    static Offer firstBest(List<Offer> all) {
        Offer best = null;
        for (Offer o : all) {
            if (best == null || o.least < best.least) {
                best = o;
            }
        }
        return best;
    }

    List<Offer> offersNow(int count) {
        return offers(count, fork, stock, isWide);
    }

    long best(int count) {
        if (count < 0 || count > 2) {
            return NEVER;
        }
        Offer o = firstBest(offersNow(count));
        return o == null ? NEVER : o.least;
    }

    int step(int count, int what) {
        if (count < 0 || count > 2 || what < 0 || what > 1) {
            return NOTHING;
        }
        Offer o = firstBest(offersNow(count));
        return o == null ? NOTHING : what == 0 ? o.x : o.b;
    }

    long more(int count, int i) {
        if (count < 0 || count > 2) {
            return NEVER;
        }
        List<Offer> all = offersNow(count);
        return i < 0 || i >= all.size() ? NEVER : all.get(i).least - firstBest(all).least;
    }

    int ties(int count) {
        if (count < 0 || count > 2) {
            return -2;
        }
        int n = 0;
        List<Offer> all = offersNow(count);
        for (Offer o : all) {
            if (o.least == firstBest(all).least) {
                n++;
            }
        }
        return n;
    }

    boolean tellPlan(int f, long x, long b) {
        if (!has(f)) {
            return false;
        }
        for (int s = 0; s <= 20; s++) {
            if (lawful(f, s, 0, x, b) || lawful(f, s, 1, x, b)) {
                plan[f][0] = (int) x;
                plan[f][1] = (int) b;
                return true;
            }
        }
        return false;
    }

    /** stock and wide with which the plan comes to f; null if it does not come there lawfully. */
    int[] comes(int f) {
        if (f == fork) {
            return new int[] {stock, isWide, 0};
        }
        if (!has(f) || nodes.get(f).under == NONE) {
            return null;
        }
        return leaves(nodes.get(f).under);
    }

    int[] leaves(int f) {
        int[] in = comes(f);
        if (in == null || !lawful(f, in[0], in[1], plan[f][0], plan[f][1])) {
            return null;
        }
        int c = costOf(f, in[0], plan[f][0], plan[f][1]);
        return new int[] {in[0] + plan[f][0] - nodes.get(f).need, in[1] | plan[f][1], in[2] + c};
    }

    int judge() {
        for (int f = 0; f < nodes.size(); f++) {
            if (ahead(f) && comes(f) != null && leaves(f) == null) {
                return f;
            }
        }
        return NONE;
    }

    List<Integer> ends() {
        List<Integer> all = new ArrayList<>();
        for (int f = 0; f < nodes.size(); f++) {
            if (ahead(f) && nodes.get(f).kids.isEmpty()) {
                all.add(f);
            }
        }
        return all;
    }

    List<Integer> planCosts(int e) {
        List<Integer> way = new ArrayList<>();
        int after = leaves(e)[2];
        for (int g = e; g != fork; g = nodes.get(g).under) {
            int before = leaves(nodes.get(g).under)[2];
            way.add(0, after - before);
            after = before;
        }
        way.add(0, after);
        return way;
    }

    Whole planWhole() {
        Whole v = new Whole();
        for (int e : ends()) {
            v.ways.put(e, planCosts(e));
        }
        return v;
    }

    long cost(int count) {
        return count < 0 || count > 2 || judge() != NONE ? NEVER : measure(count, planWhole(), fork);
    }

    int within(int n) {
        if (n < 1 || n > 100 || judge() != NONE) {
            return NOTHING;
        }
        TreeMap<Integer, Long> byCost = new TreeMap<>();
        for (int e : ends()) {
            byCost.merge(sum(planCosts(e)), chanceOf(e, fork, 4), Long::sum);
        }
        long parts = 0;
        for (int c : byCost.keySet()) {
            parts += byCost.get(c);
            if (parts >= n * 1000000L) {
                return c;
            }
        }
        throw new IllegalStateException();
    }

    int reach(int f, int w) {
        if (!has(f) || !ahead(f) || w < 0 || w > 1) {
            return -2;
        }
        int bits = 0;
        for (int[] state : arrivals(f)) {
            if (state[1] == w) {
                bits |= 1 << state[0];
            }
        }
        return bits;
    }

    private List<int[]> arrivals(int f) {
        List<int[]> all = new ArrayList<>();
        if (f == fork) {
            all.add(new int[] {stock, isWide});
            return all;
        }
        boolean[][] seen = new boolean[21][2];
        int p = nodes.get(f).under;
        for (int[] state : arrivals(p)) {
            for (int[] step : lawfulSteps(p, state[0], state[1])) {
                int then = state[0] + step[0] - nodes.get(p).need;
                int wideThen = state[1] | step[1];
                if (!seen[then][wideThen]) {
                    seen[then][wideThen] = true;
                    all.add(new int[] {then, wideThen});
                }
            }
        }
        return all;
    }

    long worth(int f, int s, int w) {
        if (!has(f) || !ahead(f) || s < 0 || s > 20 || w < 0 || w > 1) {
            return NEVER;
        }
        Offer o = firstBest(offers(0, f, s, w));
        return o == null ? NEVER : o.least;
    }

    int dead(int f, int w) {
        if (!has(f) || !ahead(f) || w < 0 || w > 1) {
            return -2;
        }
        int bits = 0;
        for (int s = 0; s <= 20; s++) {
            bits |= worth(f, s, w) == NEVER ? 1 << s : 0;
        }
        return bits;
    }

    long unit(int f) {
        int[] in = has(f) ? comes(f) : null;
        if (in == null || in[0] == 20) {
            return NEVER;
        }
        long a = worth(f, in[0], in[1]);
        long b = worth(f, in[0] + 1, in[1]);
        return a == NEVER || b == NEVER ? NEVER : a - b;
    }

    int costTo(int f) {
        if (!has(f) || !ahead(f) || !nodes.get(f).kids.isEmpty() || leaves(f) == null) {
            return NOTHING;
        }
        return leaves(f)[2];
    }

    int take(int count) {
        if (count < 0 || count > 2) {
            return -2;
        }
        if (best(count) == NEVER) {
            return NONE;
        }
        int changed = 0;
        for (int f = 0; f < nodes.size(); f++) {
            if (ahead(f)) {
                int[] in = comes(f);
                Offer o = firstBest(offers(count, f, in[0], in[1]));
                if (plan[f][0] != o.x || plan[f][1] != o.b) {
                    changed++;
                }
                plan[f][0] = o.x;
                plan[f][1] = o.b;
            }
        }
        return changed;
    }

    long gap(int f) {
        if (!has(f) || !ahead(f) || leaves(f) == null) {
            return NEVER;
        }
        int[] in = comes(f);
        List<Offer> all = offers(0, f, in[0], in[1]);
        for (Offer o : all) {
            if (o.x == plan[f][0] && o.b == plan[f][1]) {
                return o.least - firstBest(all).least;
            }
        }
        return NEVER;
    }

    long know() {
        long least = best(0);
        if (least == NEVER) {
            return NEVER;
        }
        for (int e : ends()) {
            least -= chanceOf(e, fork, 4 - nodes.get(fork).far) * leastTo(fork, stock, isWide, e);
        }
        return least;
    }

    long sooner(int f) {
        long least = best(0);
        if (least == NEVER || !has(f) || !ahead(f)) {
            return NEVER;
        }
        return least - leastKnowing(f);
    }

    long leastKnowing(int f) {
        known = f;
        long low = Long.MAX_VALUE;
        for (Whole v : wholes(fork, stock, isWide)) {
            low = Math.min(low, measure(0, v, fork));
        }
        known = NONE;
        return low;
    }

    private long excess(int x, int b) {
        List<Offer> all = offersNow(0);
        for (Offer o : all) {
            if (o.x == x && o.b == b) {
                return o.least - firstBest(all).least;
            }
        }
        return NEVER;
    }

    long middle() {
        List<Integer> way = new ArrayList<>();
        int f = fork;
        way.add(f);
        while (!nodes.get(f).kids.isEmpty()) {
            int best = nodes.get(f).kids.get(0);
            for (int k : nodes.get(f).kids) {
                if (nodes.get(k).chance > nodes.get(best).chance) {
                    best = k;
                }
            }
            f = best;
            way.add(f);
        }
        Integer least = leastOn(way, 0, stock, isWide);
        if (least == null) {
            return NEVER;
        }
        for (int[] step : lawfulSteps(fork, stock, isWide)) {
            Integer rest = leastOn(way, 1, stock + step[0] - nodes.get(fork).need, isWide | step[1]);
            if (rest != null && rest + costOf(fork, stock, step[0], step[1]) == least) {
                return excess(step[0], step[1]);
            }
        }
        throw new IllegalStateException();
    }

    long late(int far) {
        if (far < 0 || far > 4) {
            return NEVER;
        }
        widenTo = far;
        long then = best(0);
        widenTo = 4;
        return then == NEVER ? NEVER : then - best(0);
    }

    long coin() {
        long low = NEVER;
        for (Whole v : wholes(fork, stock, isWide)) {
            long need = 0;
            for (List<Integer> way : v.ways.values()) {
                int spent = 0;
                for (int c : way) {
                    spent += c;
                    need = Math.max(need, spent);
                }
            }
            low = low == NEVER ? need : Math.min(low, need);
        }
        return low;
    }

    long ruin(int coin) {
        if (coin < 0 || coin > 99999 || judge() != NONE) {
            return NEVER;
        }
        long parts = 0;
        for (int e : ends()) {
            int has = coin;
            boolean ruined = false;
            for (int c : planCosts(e)) {
                has -= c;
                ruined |= has < 0;
            }
            parts += ruined ? chanceOf(e, fork, 4) : 0;
        }
        return parts;
    }

    long tail(int n) {
        if (n < 1 || n > 100 || judge() != NONE) {
            return NEVER;
        }
        List<long[]> all = new ArrayList<>();
        for (int e : ends()) {
            all.add(new long[] {sum(planCosts(e)), chanceOf(e, fork, 4)});
        }
        all.sort((p, q) -> Long.compare(q[0], p[0]));
        long rest = n * 1000000L;
        long sum = 0;
        for (long[] one : all) {
            long part = Math.min(rest, one[1]);
            sum += part * one[0];
            rest -= part;
        }
        return sum;
    }

    long lose(int far) {
        if (far < 1 || far > 4) {
            return NEVER;
        }
        endAt = nodes.get(fork).far + far;
        Offer o = firstBest(offersNow(0));
        endAt = 5;
        return o == null ? NEVER : excess(o.x, o.b);
    }

    String shape(int f) {
        Node n = nodes.get(f);
        StringBuilder s = new StringBuilder();
        s.append('(').append(n.price).append(',').append(n.most).append(',').append(n.sell).append(',').append(n.need);
        for (int k : n.kids) {
            s.append(' ').append(nodes.get(k).chance).append(shape(k));
        }
        return s.append(')').toString();
    }

    int same(int f, int g) {
        return !has(f) || !has(g) ? -2 : shape(f).equals(shape(g)) ? 1 : 0;
    }

    int kinds() {
        java.util.Set<String> all = new java.util.HashSet<>();
        for (int f = 0; f < nodes.size(); f++) {
            all.add(shape(f));
        }
        return all.size();
    }

    int joined() {
        Oracle o = copy();
        for (int far = 4; far >= 0; far--) {
            for (Node n : o.nodes) {
                if (n.far == far) {
                    List<Integer> kept = new ArrayList<>();
                    for (int k : n.kids) {
                        boolean found = false;
                        for (int g : kept) {
                            if (o.shape(g).equals(o.shape(k))) {
                                o.nodes.get(g).chance += o.nodes.get(k).chance;
                                found = true;
                                break;
                            }
                        }
                        if (!found) {
                            kept.add(k);
                        }
                    }
                    n.kids = kept;
                }
            }
        }
        return o.size(0);
    }

    private int size(int f) {
        int n = 1;
        for (int k : nodes.get(f).kids) {
            n += size(k);
        }
        return n;
    }

    private int kid(int f, int i) {
        return !has(f) || i < 0 || i >= nodes.get(f).kids.size() ? NONE : nodes.get(f).kids.get(i);
    }

    int edge(int f, int i, int j) {
        int a = kid(f, i);
        int b = kid(f, j);
        if (a == NONE || b == NONE || i == j) {
            return -2;
        }
        Offer was = firstBest(offersNow(0));
        if (was == null) {
            return NONE;
        }
        for (int n = 1; n <= nodes.get(a).chance; n++) {
            Oracle o = copy();
            o.nodes.get(a).chance -= n;
            o.nodes.get(b).chance += n;
            Offer is = firstBest(o.offersNow(0));
            if (is.x != was.x || is.b != was.b) {
                return n;
            }
        }
        return NONE;
    }

    int rise(int f) {
        if (!has(f)) {
            return -2;
        }
        Offer was = firstBest(offersNow(0));
        if (was == null) {
            return NONE;
        }
        for (int n = 1; n <= 99; n++) {
            Oracle o = copy();
            o.nodes.get(f).price += n;
            Offer is = firstBest(o.offersNow(0));
            if (is.x != was.x || is.b != was.b) {
                return n;
            }
        }
        return NONE;
    }

    int move(int f, int i, int j, int n) {
        int a = kid(f, i);
        int b = kid(f, j);
        if (a == NONE || b == NONE || i == j) {
            return -2;
        }
        if (n < 1 || n > nodes.get(a).chance) {
            return -7;
        }
        nodes.get(a).chance -= n;
        nodes.get(b).chance += n;
        return nodes.get(b).chance;
    }

    int set(int f, int what, int v) {
        if (!has(f) || what < 0 || what > 3 || v < 0 || v > (what % 2 == 0 ? 99 : 20)) {
            return -2;
        }
        Node n = nodes.get(f);
        int was;
        if (what == 0) {
            was = n.price;
            n.price = v;
        } else if (what == 1) {
            was = n.most;
            n.most = v;
        } else if (what == 2) {
            was = n.sell;
            n.sell = v;
        } else {
            was = n.need;
            n.need = v;
        }
        return was;
    }

    int go(int i) {
        int next = kid(fork, i);
        if (next == NONE) {
            return -2;
        }
        int[] out = leaves(fork);
        if (out == null) {
            return -5;
        }
        fork = next;
        stock = out[0];
        isWide = out[1];
        spent += out[2];
        years++;
        return next;
    }

    int run(int seed) {
        long s = seed & 0xffffffffL;
        int f = fork;
        while (leaves(f) != null) {
            if (nodes.get(f).kids.isEmpty()) {
                return f;
            }
            s = (s * 1103515245L + 12345L) & 0xffffffffL;
            long r = (s >> 16) % 100;
            int sum = 0;
            for (int k : nodes.get(f).kids) {
                sum += nodes.get(k).chance;
                if (r < sum) {
                    f = k;
                    break;
                }
            }
        }
        return -5;
    }

    int planned(int f, int what) {
        if (!has(f) || what < 0 || what > 3) {
            return NOTHING;
        }
        if (what < 2) {
            return plan[f][what];
        }
        int[] out = ahead(f) ? leaves(f) : null;
        return out == null ? NOTHING : out[what - 2];
    }

    int forkNumber(int f, int what) {
        if (!has(f)) {
            return NOTHING;
        }
        Node n = nodes.get(f);
        int[] all = {n.under, n.chance, n.price, n.most, n.sell, n.need, n.far, n.kids.size()};
        if (what >= 0 && what < 8) {
            return all[what];
        }
        return what >= 8 && what - 8 < n.kids.size() ? n.kids.get(what - 8) : NOTHING;
    }

    int now(int what) {
        int[] all = {fork, stock, isWide, spent, years};
        return what >= 0 && what < 5 ? all[what] : NONE;
    }

    @Override
    public String toString() {
        return text() + " now " + fork + "/" + stock + "/" + isWide + " plan " + Arrays.deepToString(Arrays.copyOf(plan, nodes.size()));
    }
}
