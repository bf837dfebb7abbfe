import java.util.Arrays;

/**
 * A hay loft whose stock must last whatever comes. The years to come are told as a tree of forks; the
 * object says what the best step is to-day by several measures, and what knowing more would be worth.
 */
public final class LoftTree {
    public static final int NONE = -1;
    public static final long NEVER = Long.MIN_VALUE;

    private static final int NOTHING = -2000000000;
    private static final int MISSING = -2;
    private static final int NEGATIVE = -3;
    private static final int FAULTY = -4;
    private static final int UNLAWFUL = -5;
    private static final int EMPTY = -6;
    private static final int BEYOND = -7;
    private static final int UNLIKE = -8;

    private static final int MAX_FORKS = 40;
    private static final int MAX_KIDS = 5;
    private static final int MAX_FAR = 4;
    private static final int MAX_STOCK = 20;
    private static final int MAX_PRICE = 99;
    private static final int MAX_COIN = 99999;
    private static final int STOCKS = MAX_STOCK + 1;
    private static final int STATES = 2 * STOCKS;
    private static final int IMAGES = 3;

    private static final int MEAN = 0;
    private static final int WORST = 1;
    private static final int RUE = 2;
    private static final int COIN = 3;
    private static final int LIKELIEST = 4;

    /** In a table: nothing is lawful from that state on. Above all true values, so that a least passes it by. */
    private static final long DEAD = Long.MAX_VALUE;
    private static final int UNREACHED = Integer.MAX_VALUE;

    /** In how many parts a value is counted at a fork so far from fork 0. */
    private static final long[] PARTS = {100000000L, 1000000L, 10000L, 100L, 1L};
    private static final long ALL_PARTS = 100000000L;
    private static final long ONE_HUNDREDTH = 1000000L;

    private final Reader reader = new Reader();
    private final Slots slots = new Slots();
    private final Scene scene = new Scene();
    private final Scene[] images = new Scene[IMAGES];
    private final Forecast mean = new Forecast(scene.tree, MEAN);
    private final Forecast worst = new Forecast(scene.tree, WORST);
    private final Forecast rue = new Forecast(scene.tree, RUE);
    private final Forecast trial = new Forecast(scene.tree, MEAN);
    private final Ways ways = new Ways(scene.tree);
    private final Walk walk = new Walk(scene);
    private final Likeness likeness = new Likeness(scene.tree);
    private final int[] offers = new int[STATES];
    private final long[] offerWorth = new long[STATES];
    private boolean meanReady = false;
    private boolean worstReady = false;
    private boolean waysReady = false;
    private boolean rueReady = false;
    private int lastRun = NOTHING;

    public LoftTree() {
        for (int k = 0; k < IMAGES; k++) {
            images[k] = new Scene();
        }
    }

    // ---- the tape and the text ----

    public int feed(int a, int b, int c, int d, int e) {
        if (!reader.hasRoom()) {
            return NONE;
        }
        reader.append(a);
        reader.append(b);
        reader.append(c);
        reader.append(d);
        reader.append(e);
        return reader.size;
    }

    public int end(int n) {
        if (n < 0 || n > reader.size) {
            return NONE;
        }
        reader.size = n;
        return n;
    }

    public int text() {
        if (!reader.read()) {
            return FAULTY;
        }
        scene.tree.copyFrom(reader.draft);
        scene.begin();
        treeChanged();
        return scene.tree.size;
    }

    public int fault(int what) {
        switch (what) {
            case 0:
                return reader.fault;
            case 1:
                return reader.place;
            default:
                return NONE;
        }
    }

    public int fork(int f, int what) {
        Tree tree = scene.tree;
        if (!tree.has(f)) {
            return NOTHING;
        }
        switch (what) {
            case 0:
                return tree.under[f];
            case 1:
                return tree.chance[f];
            case 2:
                return tree.price[f];
            case 3:
                return tree.most[f];
            case 4:
                return tree.sell[f];
            case 5:
                return tree.need[f];
            case 6:
                return tree.far[f];
            case 7:
                return tree.kids[f];
            default:
                int kid = what < 8 ? NONE : tree.kidAt(f, what - 8);
                return kid == NONE ? NOTHING : kid;
        }
    }

    public int count(int what) {
        Tree tree = scene.tree;
        switch (what) {
            case 0:
                return tree.size;
            case 1:
                return tree.ends();
            case 2:
                return reader.size;
            case 3:
                return tree.furthest();
            case 4:
                return tree.start;
            case 5:
                return tree.cap;
            case 6:
                return tree.wide;
            case 7:
                return tree.widening;
            case 8:
                return tree.hold;
            case 9:
                return tree.left;
            case 10:
                return slots.filled();
            default:
                return NONE;
        }
    }

    // ---- the best step now ----

    public long best(int count) {
        return isMeasure(count) ? told(leastNow(count)) : NEVER;
    }

    public int step(int count, int what) {
        if (!isMeasure(count)) {
            return NOTHING;
        }
        return partOfStep(pickNow(tableFor(count)), what);
    }

    public int steps() {
        return listOffers(MEAN);
    }

    public int first(int i, int what) {
        int n = listOffers(MEAN);
        return i >= 0 && i < n ? partOfStep(offers[i], what) : NOTHING;
    }

    public long more(int count, int i) {
        if (!isMeasure(count)) {
            return NEVER;
        }
        int n = listOffers(count);
        return i >= 0 && i < n ? offerWorth[i] - leastNow(count) : NEVER;
    }

    public int ties(int count) {
        if (!isMeasure(count)) {
            return MISSING;
        }
        int n = listOffers(count);
        long least = leastNow(count);
        int ties = 0;
        for (int i = 0; i < n; i++) {
            if (offerWorth[i] == least) {
                ties++;
            }
        }
        return ties;
    }

    // ---- the plan ----

    public boolean plan(int f, int x, int b) {
        return adopt(f, x, b);
    }

    public int plans(int slot) {
        if (!slots.has(slot)) {
            return MISSING;
        }
        if (!slots.hasRow(slot)) {
            return EMPTY;
        }
        int taken = 0;
        for (int f = 0; f < slots.length[slot] / 2; f++) {
            if (adopt(f, slots.number(slot, 2 * f), slots.number(slot, 2 * f + 1))) {
                taken++;
            }
        }
        return taken;
    }

    public int planned(int f, int what) {
        if (!scene.tree.has(f)) {
            return NOTHING;
        }
        if (what == 0) {
            return scene.planX[f];
        }
        if (what == 1) {
            return scene.planB[f];
        }
        walk.follow();
        if (what < 0 || what > 3 || !walk.lawful[f]) {
            return NOTHING;
        }
        return what == 2 ? walk.stockThen[f] : walk.wideThen[f];
    }

    public int judge() {
        walk.follow();
        return walk.stumble;
    }

    public long cost(int count) {
        walk.follow();
        if (!isMeasure(count) || walk.stumble != NONE) {
            return NEVER;
        }
        if (count == MEAN) {
            return meanOfPlan();
        }
        return count == WORST ? worstOfPlan() : rueOfPlan();
    }

    public int within(int n) {
        walk.follow();
        if (n < 1 || n > 100 || walk.stumble != NONE) {
            return NOTHING;
        }
        int least = NOTHING;
        for (int e = 0; e < scene.tree.size; e++) {
            boolean lower = least == NOTHING || walk.total[e] < least;
            if (walk.isEndOfPlan(e) && lower && walk.partsUpTo(walk.total[e]) >= n * ONE_HUNDREDTH) {
                least = walk.total[e];
            }
        }
        return least;
    }

    public int costTo(int f) {
        walk.follow();
        return scene.tree.has(f) && walk.isEndOfPlan(f) ? walk.total[f] : NOTHING;
    }

    public int take(int count) {
        if (!isMeasure(count)) {
            return MISSING;
        }
        if (leastNow(count) == DEAD) {
            return NONE;
        }
        Forecast table = tableFor(count);
        int changed = 0;
        for (int f = scene.fork; f < scene.tree.size; f++) {
            if (scene.tree.isFrom(f, scene.fork)) {
                walk.enter(f);
                int pick = table.choose(f, walk.stock[f], walk.wide[f]);
                if (pick != NONE && adoptPick(f, walk.stock[f], pick)) {
                    changed++;
                }
                walk.leave(f);
            }
        }
        return changed;
    }

    public long gap(int f) {
        walk.follow();
        if (!scene.tree.has(f) || !walk.lawful[f]) {
            return NEVER;
        }
        Forecast table = tableFor(MEAN);
        table.lookBehind(f);
        long own = table.weigh(scene.planX[f], scene.planB[f], walk.stockThen[f], walk.wideThen[f]);
        return own == DEAD ? NEVER : own - table.at(f, walk.stock[f], walk.wide[f]);
    }

    // ---- states ----

    public int reach(int f, int wide) {
        if (!isAhead(f) || !isFlag(wide)) {
            return MISSING;
        }
        traceWays();
        int bits = 0;
        for (int stock = 0; stock < STOCKS; stock++) {
            if (ways.canCome(f, stock, wide)) {
                bits |= 1 << stock;
            }
        }
        return bits;
    }

    public int dead(int f, int wide) {
        if (!isAhead(f) || !isFlag(wide)) {
            return MISSING;
        }
        Forecast table = tableFor(MEAN);
        int bits = 0;
        for (int stock = 0; stock < STOCKS; stock++) {
            if (table.at(f, stock, wide) == DEAD) {
                bits |= 1 << stock;
            }
        }
        return bits;
    }

    public long worth(int f, int stock, int wide) {
        if (!isAhead(f) || stock < 0 || stock > MAX_STOCK || !isFlag(wide)) {
            return NEVER;
        }
        return told(tableFor(MEAN).at(f, stock, wide));
    }

    public long unit(int f) {
        walk.follow();
        if (!scene.tree.has(f) || !walk.comes[f] || walk.stock[f] >= MAX_STOCK) {
            return NEVER;
        }
        Forecast table = tableFor(MEAN);
        long so = table.at(f, walk.stock[f], walk.wide[f]);
        long withOneMore = table.at(f, walk.stock[f] + 1, walk.wide[f]);
        return so == DEAD || withOneMore == DEAD ? NEVER : so - withOneMore;
    }

    // ---- what knowing, waiting and widening late are worth ----

    public long know() {
        long least = leastNow(MEAN);
        if (least == DEAD) {
            return NEVER;
        }
        traceWays();
        walk.spreadParts();
        long known = 0;
        for (int e = 0; e < scene.tree.size; e++) {
            if (isAhead(e) && scene.tree.kids[e] == 0) {
                known += ways.least[e] * walk.part[e];
            }
        }
        return least - inPartsOfNow(known);
    }

    public long sooner(int f) {
        long least = leastNow(MEAN);
        if (!isAhead(f) || least == DEAD) {
            return NEVER;
        }
        trial.aim(MEAN);
        trial.copyValues(mean);
        trial.fillKnown(f);
        if (f != scene.fork) {
            refillUpTo(scene.tree.under[f], scene.fork);
            trial.fillFork(scene.fork);
        }
        return least - trial.at(scene.fork, scene.stock, scene.wide);
    }

    public long middle() {
        Tree tree = scene.tree;
        trial.aim(LIKELIEST);
        int last = scene.fork;
        for (int i = 0; i < MAX_FAR && tree.kids[last] > 0; i++) {
            last = tree.likeliest(last);
        }
        refillUpTo(last, scene.fork);
        return excessOf(pickNow(trial), leastNow(MEAN));
    }

    public long late(int far) {
        if (far < 0 || far > MAX_FAR) {
            return NEVER;
        }
        trial.aim(MEAN);
        trial.widenTo = far;
        trial.fillFrom(scene.fork);
        long then = trial.at(scene.fork, scene.stock, scene.wide);
        return then == DEAD ? NEVER : then - leastNow(MEAN);
    }

    public long coin() {
        trial.aim(COIN);
        trial.fillFrom(scene.fork);
        return told(trial.at(scene.fork, scene.stock, scene.wide));
    }

    public long ruin(int coin) {
        walk.follow();
        if (coin < 0 || coin > MAX_COIN || walk.stumble != NONE) {
            return NEVER;
        }
        long parts = 0;
        for (int e = 0; e < scene.tree.size; e++) {
            if (walk.isEndOfPlan(e) && walk.peak[e] > coin) {
                parts += walk.part[e];
            }
        }
        return parts;
    }

    public long tail(int n) {
        walk.follow();
        if (n < 1 || n > 100 || walk.stumble != NONE) {
            return NEVER;
        }
        return walk.worstParts(n * ONE_HUNDREDTH);
    }

    public long lose(int far) {
        if (far < 1 || far > MAX_FAR) {
            return NEVER;
        }
        trial.aim(MEAN);
        trial.endAt = scene.tree.far[scene.fork] + far;
        trial.fillFrom(scene.fork);
        return excessOf(pickNow(trial), leastNow(MEAN));
    }

    // ---- forks that are alike ----

    public int same(int f, int g) {
        if (!scene.tree.has(f) || !scene.tree.has(g)) {
            return MISSING;
        }
        likeness.sortOut(false);
        return likeness.kind[f] == likeness.kind[g] ? 1 : 0;
    }

    public int kinds() {
        likeness.sortOut(false);
        return likeness.differing();
    }

    public int joined() {
        likeness.sortOut(true);
        return likeness.bulk[0];
    }

    // ---- edges at which the step changes, and changes of the text ----

    public int edge(int f, int i, int j) {
        Tree tree = scene.tree;
        int giver = tree.kidAt(f, i);
        int taker = tree.kidAt(f, j);
        if (giver == NONE || taker == NONE || i == j) {
            return MISSING;
        }
        int has = tree.chance[giver];
        if (!isAhead(f) || leastNow(MEAN) == DEAD) {
            return NONE;
        }
        int usual = beginTrial();
        int found = NONE;
        int gone = 0;
        while (gone < has && found == NONE) {
            gone++;
            tree.shift(giver, taker, 1);
            found = trialPick(f) == usual ? NONE : gone;
        }
        tree.shift(giver, taker, -gone);
        return found;
    }

    public int rise(int f) {
        Tree tree = scene.tree;
        if (!tree.has(f)) {
            return MISSING;
        }
        if (!isAhead(f) || leastNow(MEAN) == DEAD) {
            return NONE;
        }
        int usual = beginTrial();
        int was = tree.price[f];
        int found = NONE;
        for (int n = 1; n <= MAX_PRICE && found == NONE; n++) {
            tree.price[f] = was + n;
            found = trialPick(f) == usual ? NONE : n;
        }
        tree.price[f] = was;
        return found;
    }

    public int move(int f, int i, int j, int n) {
        Tree tree = scene.tree;
        int giver = tree.kidAt(f, i);
        int taker = tree.kidAt(f, j);
        if (giver == NONE || taker == NONE || i == j) {
            return MISSING;
        }
        if (n < 1 || n > tree.chance[giver]) {
            return BEYOND;
        }
        tree.shift(giver, taker, n);
        treeChanged();
        return tree.chance[taker];
    }

    public int set(int f, int what, int v) {
        if (!scene.tree.has(f) || what < 0 || what > 3) {
            return MISSING;
        }
        boolean isAmount = what == 1 || what == 3;
        if (v < 0 || v > (isAmount ? MAX_STOCK : MAX_PRICE)) {
            return MISSING;
        }
        int was = scene.tree.change(f, what, v);
        treeChanged();
        return was;
    }

    // ---- years that go by, runs by lot ----

    public int go(int i) {
        int next = scene.tree.kidAt(scene.fork, i);
        if (next == NONE) {
            return MISSING;
        }
        walk.enter(scene.fork);
        walk.leave(scene.fork);
        if (!walk.lawful[scene.fork]) {
            return UNLAWFUL;
        }
        scene.pass(next, walk.stockThen[scene.fork], walk.wideThen[scene.fork], walk.total[scene.fork]);
        nowChanged();
        return next;
    }

    public int now(int what) {
        switch (what) {
            case 0:
                return scene.fork;
            case 1:
                return scene.stock;
            case 2:
                return scene.wide;
            case 3:
                return scene.spent;
            case 4:
                return scene.years;
            default:
                return NONE;
        }
    }

    public int again() {
        int gone = scene.years;
        scene.restart();
        nowChanged();
        return gone;
    }

    public int run(int seed) {
        walk.follow();
        int s = seed;
        int f = scene.fork;
        for (int i = 0; i < MAX_FAR && walk.lawful[f] && scene.tree.kids[f] > 0; i++) {
            s = s * 1103515245 + 12345;
            f = scene.tree.drawn(f, (s >>> 16) % 100);
        }
        if (!walk.lawful[f]) {
            return UNLAWFUL;
        }
        lastRun = walk.total[f];
        return f;
    }

    public int ran() {
        return lastRun;
    }

    // ---- images ----

    public int keep(int k) {
        if (k < 0 || k >= IMAGES) {
            return MISSING;
        }
        images[k].copyFrom(scene);
        images[k].kept = true;
        return 0;
    }

    public int back(int k) {
        if (k < 0 || k >= IMAGES) {
            return MISSING;
        }
        if (!images[k].kept) {
            return EMPTY;
        }
        scene.copyFrom(images[k]);
        treeChanged();
        return 0;
    }

    // ---- slots ----

    public int row(int slot, int width, int n) {
        if (!slots.has(slot) || width < 0 || width > 3 || n > Slots.MOST) {
            return MISSING;
        }
        if (n < 0) {
            return NEGATIVE;
        }
        slots.make(slot, width, n);
        return 0;
    }

    public int write(int slot, int i, long v) {
        if (!slots.has(slot)) {
            return MISSING;
        }
        if (!slots.hasRow(slot)) {
            return EMPTY;
        }
        if (i < 0 || i >= slots.length[slot]) {
            return BEYOND;
        }
        slots.put(slot, i, v);
        return 0;
    }

    public int paste(int slot, int i, int to, int k, int n) {
        if (!slots.has(slot) || !slots.has(to)) {
            return MISSING;
        }
        if (!slots.hasRow(slot) || !slots.hasRow(to)) {
            return EMPTY;
        }
        if (slots.width[slot] != slots.width[to]) {
            return UNLIKE;
        }
        if (!slots.covers(slot, i, n) || !slots.covers(to, k, n)) {
            return BEYOND;
        }
        slots.carry(slot, i, to, k, n);
        return 0;
    }

    // ---- what the calls share ----

    private static boolean isMeasure(int count) {
        return count == MEAN || count == WORST || count == RUE;
    }

    private static boolean isFlag(int v) {
        return v == 0 || v == 1;
    }

    private static long told(long value) {
        return value == DEAD ? NEVER : value;
    }

    private boolean isAhead(int f) {
        return scene.tree.has(f) && scene.tree.isFrom(f, scene.fork);
    }

    private void treeChanged() {
        meanReady = false;
        worstReady = false;
        nowChanged();
    }

    /** The least costs on the ways are counted from now, and what one rues with them. */
    private void nowChanged() {
        waysReady = false;
        rueReady = false;
    }

    private void traceWays() {
        if (!waysReady) {
            ways.trace(scene.fork, scene.stock, scene.wide);
            waysReady = true;
        }
    }

    /** Mean and worst don't hang on now, so they are filled for the whole tree and last until it changes. */
    private Forecast tableFor(int measure) {
        if (measure == WORST) {
            if (!worstReady) {
                worst.fillFrom(0);
                worstReady = true;
            }
            return worst;
        }
        if (measure == RUE) {
            if (!rueReady) {
                traceWays();
                rue.spareAtEnds(ways.least);
                rue.fillFrom(scene.fork);
                rueReady = true;
            }
            return rue;
        }
        if (!meanReady) {
            mean.fillFrom(0);
            meanReady = true;
        }
        return mean;
    }

    private long leastNow(int measure) {
        return tableFor(measure).at(scene.fork, scene.stock, scene.wide);
    }

    private int pickNow(Forecast table) {
        return table.choose(scene.fork, scene.stock, scene.wide);
    }

    private int partOfStep(int pick, int what) {
        if (pick == NONE || !isFlag(what)) {
            return NOTHING;
        }
        return what == 0 ? scene.tree.boughtFor(scene.fork, scene.stock, pick % STOCKS) : pick / STOCKS;
    }

    /** Lists the steps of now behind which something is lawful, in their order, with what each comes to. */
    private int listOffers(int measure) {
        Tree tree = scene.tree;
        Forecast table = tableFor(measure);
        table.lookBehind(scene.fork);
        int n = 0;
        for (int b = 0; b <= 1 - scene.wide; b++) {
            int wideThen = scene.wide | b;
            int fullest = tree.fullest(scene.fork, scene.stock, wideThen);
            for (int then = 0; then <= fullest; then++) {
                int x = tree.boughtFor(scene.fork, scene.stock, then);
                long value = table.weigh(x, b, then, wideThen);
                if (value != DEAD) {
                    offers[n] = b * STOCKS + then;
                    offerWorth[n] = value;
                    n++;
                }
            }
        }
        return n;
    }

    /** By how much the mean of a step now is above the least; the table of means is filled by then. */
    private long excessOf(int pick, long least) {
        if (pick == NONE || least == DEAD) {
            return NEVER;
        }
        int b = pick / STOCKS;
        int then = pick % STOCKS;
        mean.lookBehind(scene.fork);
        long own = mean.weigh(scene.tree.boughtFor(scene.fork, scene.stock, then), b, then, scene.wide | b);
        return own == DEAD ? NEVER : own - least;
    }

    private int beginTrial() {
        trial.aim(MEAN);
        trial.copyValues(tableFor(MEAN));
        return pickNow(trial);
    }

    /** Only the forks on the way from f to now have other values when f changes: the rest is not counted anew. */
    private int trialPick(int f) {
        refillUpTo(f, scene.fork);
        return pickNow(trial);
    }

    /** Fills the trial's rows from f up to the fork below top. */
    private void refillUpTo(int f, int top) {
        int g = f;
        for (int i = 0; i < MAX_FAR && g > top; i++) {
            trial.fillFork(g);
            g = scene.tree.under[g];
        }
    }

    /** Takes long numbers, so that those of a wide row are not cut before they are looked at. */
    private boolean adopt(int f, long x, long b) {
        if (!scene.tree.has(f) || x < -MAX_STOCK || x > MAX_STOCK || b < 0 || b > 1) {
            return false;
        }
        if (!scene.tree.isEverLawful(f, (int) x, (int) b)) {
            return false;
        }
        scene.planX[f] = (int) x;
        scene.planB[f] = (int) b;
        return true;
    }

    private boolean adoptPick(int f, int stock, int pick) {
        int x = scene.tree.boughtFor(f, stock, pick % STOCKS);
        int b = pick / STOCKS;
        boolean differs = scene.planX[f] != x || scene.planB[f] != b;
        scene.planX[f] = x;
        scene.planB[f] = b;
        return differs;
    }

    private long inPartsOfNow(long sumOfAllParts) {
        return sumOfAllParts / (ALL_PARTS / PARTS[scene.tree.far[scene.fork]]);
    }

    private long meanOfPlan() {
        long sum = 0;
        for (int e = 0; e < scene.tree.size; e++) {
            if (walk.isEndOfPlan(e)) {
                sum += walk.total[e] * walk.part[e];
            }
        }
        return inPartsOfNow(sum);
    }

    private long worstOfPlan() {
        long most = NEVER;
        for (int e = 0; e < scene.tree.size; e++) {
            if (walk.isEndOfPlan(e)) {
                most = Math.max(most, walk.total[e]);
            }
        }
        return most;
    }

    private long rueOfPlan() {
        traceWays();
        long most = NEVER;
        for (int e = 0; e < scene.tree.size; e++) {
            if (walk.isEndOfPlan(e)) {
                most = Math.max(most, walk.total[e] - ways.least[e]);
            }
        }
        return most;
    }

    // ---- the parts ----

    /** What a text tells. Forks are numbered as they stand, so each has a greater number than the one it is under. */
    private static final class Tree {
        int start = 0;
        int cap = 0;
        int wide = 0;
        int widening = 0;
        int hold = 0;
        int left = 0;
        int size = 0;
        final int[] under = new int[MAX_FORKS];
        final int[] chance = new int[MAX_FORKS];
        final int[] price = new int[MAX_FORKS];
        final int[] most = new int[MAX_FORKS];
        final int[] sell = new int[MAX_FORKS];
        final int[] need = new int[MAX_FORKS];
        final int[] far = new int[MAX_FORKS];
        final int[] kids = new int[MAX_FORKS];
        final int[] kid = new int[MAX_FORKS * MAX_KIDS];

        void clear() {
            start = 0;
            cap = 0;
            wide = 0;
            widening = 0;
            hold = 0;
            left = 0;
            size = 0;
        }

        /** The caller has looked that there is room, and that the parent may have one more. */
        int add(int parent, int odds) {
            int f = size;
            size++;
            under[f] = parent;
            chance[f] = odds;
            price[f] = 0;
            most[f] = 0;
            sell[f] = 0;
            need[f] = 0;
            kids[f] = 0;
            far[f] = 0;
            if (parent != NONE) {
                far[f] = far[parent] + 1;
                kid[parent * MAX_KIDS + kids[parent]] = f;
                kids[parent]++;
            }
            return f;
        }

        void copyFrom(Tree other) {
            start = other.start;
            cap = other.cap;
            wide = other.wide;
            widening = other.widening;
            hold = other.hold;
            left = other.left;
            size = other.size;
            System.arraycopy(other.under, 0, under, 0, MAX_FORKS);
            System.arraycopy(other.chance, 0, chance, 0, MAX_FORKS);
            System.arraycopy(other.price, 0, price, 0, MAX_FORKS);
            System.arraycopy(other.most, 0, most, 0, MAX_FORKS);
            System.arraycopy(other.sell, 0, sell, 0, MAX_FORKS);
            System.arraycopy(other.need, 0, need, 0, MAX_FORKS);
            System.arraycopy(other.far, 0, far, 0, MAX_FORKS);
            System.arraycopy(other.kids, 0, kids, 0, MAX_FORKS);
            System.arraycopy(other.kid, 0, kid, 0, MAX_FORKS * MAX_KIDS);
        }

        boolean has(int f) {
            return f >= 0 && f < size;
        }

        boolean mayHaveOneMore(int f) {
            return has(f) && far[f] < MAX_FAR && kids[f] < MAX_KIDS;
        }

        int kidAt(int f, int i) {
            return has(f) && i >= 0 && i < kids[f] ? kid[f * MAX_KIDS + i] : NONE;
        }

        /** Whether f is top, or somewhere under it. */
        boolean isFrom(int f, int top) {
            int g = f;
            for (int i = 0; i < MAX_FAR && g > top; i++) {
                g = under[g];
            }
            return g == top;
        }

        int ends() {
            int n = 0;
            for (int f = 0; f < size; f++) {
                if (kids[f] == 0) {
                    n++;
                }
            }
            return n;
        }

        int furthest() {
            int most = 0;
            for (int f = 0; f < size; f++) {
                most = Math.max(most, far[f]);
            }
            return most;
        }

        int likeliest(int f) {
            int found = kid[f * MAX_KIDS];
            for (int i = 1; i < kids[f]; i++) {
                int k = kid[f * MAX_KIDS + i];
                if (chance[k] > chance[found]) {
                    found = k;
                }
            }
            return found;
        }

        /** The fork under f that a number of 0 .. 99 falls on; the chances are 100 together. */
        int drawn(int f, int r) {
            int sum = 0;
            int found = f;
            for (int i = 0; i < kids[f] && sum <= r; i++) {
                found = kid[f * MAX_KIDS + i];
                sum += chance[found];
            }
            return found;
        }

        void shift(int giver, int taker, int n) {
            chance[giver] -= n;
            chance[taker] += n;
        }

        int change(int f, int what, int v) {
            int[] numbers = what == 0 ? price : what == 1 ? most : what == 2 ? sell : need;
            int was = numbers[f];
            numbers[f] = v;
            return was;
        }

        int room(int isWide) {
            return isWide == 1 ? wide : cap;
        }

        /** The greatest stock that a step can leave, below 0 if there is none; each from 0 to it is lawful. */
        int fullest(int f, int stock, int wideThen) {
            return Math.min(room(wideThen), stock + most[f] - need[f]);
        }

        int boughtFor(int f, int stock, int then) {
            return then + need[f] - stock;
        }

        boolean isLawful(int f, int stock, int isWide, int x, int b) {
            if (x > most[f] || x + stock < 0 || (b == 1 && isWide == 1)) {
                return false;
            }
            int then = stock + x - need[f];
            return then >= 0 && then <= room(isWide | b);
        }

        boolean isEverLawful(int f, int x, int b) {
            for (int s = 0; s < STATES; s++) {
                if (isLawful(f, s % STOCKS, s / STOCKS, x, b)) {
                    return true;
                }
            }
            return false;
        }

        int outlay(int f, int x, int b, int then) {
            int trade = x > 0 ? x * price[f] : x * sell[f];
            int rest = kids[f] == 0 ? hold - left : hold;
            return trade + b * widening + rest * then;
        }
    }

    /** The text, the plan, and where one is: what an image keeps. */
    private static final class Scene {
        final Tree tree = new Tree();
        final int[] planX = new int[MAX_FORKS];
        final int[] planB = new int[MAX_FORKS];
        int fork = 0;
        int stock = 0;
        int wide = 0;
        int spent = 0;
        int years = 0;
        boolean kept = false;

        Scene() {
            tree.add(NONE, 0);
        }

        void begin() {
            Arrays.fill(planX, 0);
            Arrays.fill(planB, 0);
            restart();
        }

        void restart() {
            fork = 0;
            stock = tree.start;
            wide = 0;
            spent = 0;
            years = 0;
        }

        void pass(int next, int stockThen, int wideThen, int paid) {
            fork = next;
            stock = stockThen;
            wide = wideThen;
            spent += paid;
            years++;
        }

        void copyFrom(Scene other) {
            tree.copyFrom(other.tree);
            System.arraycopy(other.planX, 0, planX, 0, MAX_FORKS);
            System.arraycopy(other.planB, 0, planB, 0, MAX_FORKS);
            fork = other.fork;
            stock = other.stock;
            wide = other.wide;
            spent = other.spent;
            years = other.years;
        }
    }

    /** The tape, and the reading of a text from it. After the first fault it looks at nothing more. */
    private static final class Reader {
        private static final int MOST = 1800;
        private static final int FED_AT_ONCE = 20;
        private static final int HUGE = 100000;

        private static final int FINISH = 0;
        private static final int WORD = 1;
        private static final int NUMBER = 2;
        private static final int SIGN = 3;
        private static final int STRANGE = 4;
        private static final int BLANK = 5;

        private static final int START = 1;
        private static final int CAP = 2;
        private static final int WIDE = 4;
        private static final int HOLD = 8;
        private static final int LEFT = 16;
        private static final int ROOT = 32;

        private static final int MISPLACED = 1;
        private static final int OUT_OF_BOUNDS = 2;
        private static final int TOLD_ALREADY = 3;
        private static final int NOT_A_HUNDRED = 4;

        final Tree draft = new Tree();
        int size = 0;
        int fault = 0;
        int place = NONE;
        private final byte[] bytes = new byte[MOST];
        private final int[] wordOfFork = new int[MAX_FORKS];
        private int at = 0;
        private int from = 0;
        private int kind = FINISH;
        private int told = 0;

        boolean hasRoom() {
            return size + FED_AT_ONCE <= MOST;
        }

        void append(int four) {
            for (int shift = 24; shift >= 0 && size < MOST; shift -= 8) {
                bytes[size] = (byte) (four >> shift);
                size++;
            }
        }

        /** Whether the tape is a text, which the draft then has. The tape is empty behind it in either case. */
        boolean read() {
            draft.clear();
            at = 0;
            told = 0;
            fault = 0;
            place = NONE;
            next();
            // a line has a byte at least, so there are no more lines than bytes
            for (int i = 0; i < MOST && fault == 0 && kind != FINISH; i++) {
                readLine();
                next();
            }
            if ((told & ROOT) == 0) {
                fail(MISPLACED);
            }
            if (fault == 0) {
                checkChances();
            }
            size = 0;
            return fault == 0;
        }

        private void readLine() {
            if (isWord("start")) {
                tellOnce(START);
                draft.start = number(0, MAX_STOCK);
            } else if (isWord("cap")) {
                tellOnce(CAP);
                draft.cap = number(0, MAX_STOCK);
            } else if (isWord("wide")) {
                tellOnce(WIDE);
                draft.wide = number(0, MAX_STOCK);
                demandWord("cost");
                draft.widening = number(0, 999);
            } else if (isWord("hold")) {
                tellOnce(HOLD);
                draft.hold = number(0, MAX_PRICE);
            } else if (isWord("left")) {
                tellOnce(LEFT);
                draft.left = number(0, MAX_PRICE);
            } else if (isWord("root")) {
                readRoot();
            } else if (isWord("fork")) {
                readFork();
            } else {
                fail(MISPLACED);
            }
            demandSign();
        }

        /** Behind root it can't stand at all, and that is the lesser fault. */
        private void tellOnce(int which) {
            if ((told & ROOT) != 0) {
                fail(MISPLACED);
            } else if ((told & which) != 0) {
                fail(TOLD_ALREADY);
            }
            told |= which;
        }

        private void readRoot() {
            if ((told & ROOT) != 0) {
                fail(TOLD_ALREADY);
                return;
            }
            told |= ROOT;
            readDoes(draft.add(NONE, 0));
        }

        private void readFork() {
            if ((told & ROOT) == 0) {
                fail(MISPLACED);
            } else if (draft.size >= MAX_FORKS) {
                fail(TOLD_ALREADY);
            }
            int word = from;
            demandWord("under");
            int parent = number(0, HUGE);
            if (!draft.mayHaveOneMore(parent)) {
                fail(OUT_OF_BOUNDS);
            }
            demandWord("chance");
            int odds = number(1, 100);
            if (fault == 0) {
                wordOfFork[draft.size] = word;
                readDoes(draft.add(parent, odds));
            }
        }

        private void readDoes(int f) {
            demandWord("price");
            draft.price[f] = number(0, MAX_PRICE);
            demandWord("most");
            draft.most[f] = number(0, MAX_STOCK);
            demandWord("sell");
            draft.sell[f] = number(0, MAX_PRICE);
            demandWord("need");
            draft.need[f] = number(0, MAX_STOCK);
        }

        private void checkChances() {
            for (int f = 0; f < draft.size && fault == 0; f++) {
                int sum = 0;
                for (int i = 0; i < draft.kids[f]; i++) {
                    sum += draft.chance[draft.kidAt(f, i)];
                }
                if (draft.kids[f] > 0 && sum != 100) {
                    from = wordOfFork[draft.kidAt(f, 0)];
                    fail(NOT_A_HUNDRED);
                }
            }
        }

        private void fail(int code) {
            if (fault == 0) {
                fault = code;
                place = from;
            }
        }

        private void demandWord(String word) {
            next();
            if (!isWord(word)) {
                fail(MISPLACED);
            }
        }

        private void demandSign() {
            next();
            if (kind != SIGN) {
                fail(MISPLACED);
            }
        }

        private int number(int least, int most) {
            next();
            int amount = 0;
            if (kind != NUMBER) {
                fail(MISPLACED);
                return amount;
            }
            for (int i = from; i < at; i++) {
                // one of many digits stays too great, but must not wrap around
                amount = Math.min(HUGE, amount * 10 + (bytes[i] - '0'));
            }
            if (amount < least || amount > most) {
                fail(OUT_OF_BOUNDS);
            }
            return amount;
        }

        private boolean isWord(String word) {
            int n = word.length();
            if (kind != WORD || at - from != n) {
                return false;
            }
            for (int i = 0; i < n; i++) {
                if (bytes[from + i] != word.charAt(i)) {
                    return false;
                }
            }
            return true;
        }

        private void next() {
            if (fault != 0) {
                return;
            }
            while (at < size && kindOf(bytes[at]) == BLANK) {
                at++;
            }
            from = at;
            kind = at < size ? kindOf(bytes[at]) : FINISH;
            if (kind != FINISH) {
                at++;
            }
            while (at < size && (kind == WORD || kind == NUMBER) && kindOf(bytes[at]) == kind) {
                at++;
            }
        }

        private static int kindOf(int sign) {
            if (sign >= 'a' && sign <= 'z') {
                return WORD;
            }
            if (sign >= '0' && sign <= '9') {
                return NUMBER;
            }
            if (sign == ' ' || sign == '\n') {
                return BLANK;
            }
            return sign == ';' ? SIGN : STRANGE;
        }
    }

    /** For each fork and state the least of one measure from there on. */
    private static final class Forecast {
        final Tree tree;
        /** The furthest forks at which one can widen. */
        int widenTo = MAX_FAR;
        /** Forks so far from fork 0, or further, are taken as ends. */
        int endAt = MAX_FAR + 1;
        private int measure;
        private final long[] values = new long[MAX_FORKS * STATES];
        private final long[] spared = new long[MAX_FORKS];
        // of the fork that was looked at last: what lies behind each state that it can leave, and what trade costs
        private final long[] behind = new long[STATES];
        private long buying = 0;
        private long selling = 0;
        private long widening = 0;
        // the least of each state of the fork that was swept last
        private final long[] lows = new long[STATES];

        Forecast(Tree tree, int measure) {
            this.tree = tree;
            this.measure = measure;
        }

        void aim(int newMeasure) {
            measure = newMeasure;
            widenTo = MAX_FAR;
            endAt = MAX_FAR + 1;
        }

        void copyValues(Forecast other) {
            System.arraycopy(other.values, 0, values, 0, MAX_FORKS * STATES);
        }

        /** What is taken off the cost at each end. */
        void spareAtEnds(long[] amounts) {
            System.arraycopy(amounts, 0, spared, 0, MAX_FORKS);
        }

        long at(int f, int stock, int isWide) {
            return values[f * STATES + isWide * STOCKS + stock];
        }

        void fillFrom(int top) {
            for (int f = tree.size - 1; f >= top; f--) {
                if (tree.far[f] <= endAt && tree.isFrom(f, top)) {
                    fillFork(f);
                }
            }
        }

        void fillFork(int f) {
            lookBehind(f);
            sweep(f);
            System.arraycopy(lows, 0, values, f * STATES, STATES);
        }

        /**
         * Fills the row of means of a fork at which one knows which of those under it comes: each of them has a step by
         * itself, counted in the parts of that one, then by its chance. At an end there is nothing to know.
         */
        void fillKnown(int f) {
            if (isEnd(f)) {
                return;
            }
            int row = f * STATES;
            for (int s = 0; s < STATES; s++) {
                values[row + s] = 0L;
            }
            for (int i = 0; i < tree.kids[f]; i++) {
                int k = tree.kid[f * MAX_KIDS + i];
                System.arraycopy(values, k * STATES, behind, 0, STATES);
                addKeeping(f, PARTS[tree.far[k]], tree.hold);
                sweep(f);
                for (int s = 0; s < STATES; s++) {
                    boolean isLost = lows[s] == DEAD || values[row + s] == DEAD;
                    values[row + s] = isLost ? DEAD : values[row + s] + tree.chance[k] * lows[s];
                }
            }
        }

        /** The first step of the least, as widened (times the stocks) and the stock then; NONE if there is none. */
        int choose(int f, int stock, int isWide) {
            lookBehind(f);
            long low = DEAD;
            int pick = NONE;
            for (int b = 0; b <= 1 - isWide; b++) {
                int wideThen = isWide | b;
                int fullest = tree.fullest(f, stock, wideThen);
                int x = tree.boughtFor(f, stock, 0);
                for (int then = 0; then <= fullest; then++) {
                    long value = weigh(x + then, b, then, wideThen);
                    if (value < low) {
                        low = value;
                        pick = b * STOCKS + then;
                    }
                }
            }
            return pick;
        }

        void lookBehind(int f) {
            long scale = measure == MEAN ? PARTS[tree.far[f]] : 1L;
            boolean isEnd = isEnd(f);
            if (isEnd) {
                Arrays.fill(behind, measure == RUE ? -spared[f] : 0L);
            } else if (measure == LIKELIEST) {
                System.arraycopy(values, tree.likeliest(f) * STATES, behind, 0, STATES);
            } else {
                gather(f);
            }
            addKeeping(f, scale, isEnd ? tree.hold - tree.left : tree.hold);
        }

        /** What a step comes to at the fork that was looked at last; the step is lawful there. */
        long weigh(int x, int b, int then, int wideThen) {
            long rest = behind[wideThen * STOCKS + then];
            if (rest == DEAD) {
                return DEAD;
            }
            return rest + (x > 0 ? x * buying : x * selling) + b * widening;
        }

        private boolean isEnd(int f) {
            return tree.kids[f] == 0 || tree.far[f] >= endAt;
        }

        private void gather(int f) {
            Arrays.fill(behind, measure == MEAN ? 0L : NEVER);
            for (int i = 0; i < tree.kids[f]; i++) {
                int k = tree.kid[f * MAX_KIDS + i];
                long odds = tree.chance[k];
                for (int s = 0; s < STATES; s++) {
                    long value = values[k * STATES + s];
                    if (value == DEAD || behind[s] == DEAD) {
                        behind[s] = DEAD;
                    } else if (measure == MEAN) {
                        behind[s] += odds * value;
                    } else if (value > behind[s]) {
                        behind[s] = value;
                    }
                }
            }
        }

        /** Counts holding into what lies behind, since it hangs on the stock then alone. */
        private void addKeeping(int f, long scale, int keeping) {
            buying = tree.price[f] * scale;
            selling = tree.sell[f] * scale;
            widening = tree.widening * scale;
            for (int then = 0; then < STOCKS; then++) {
                long kept = keeping * then * scale;
                if (behind[then] != DEAD) {
                    behind[then] += kept;
                }
                if (behind[STOCKS + then] != DEAD) {
                    behind[STOCKS + then] += kept;
                }
            }
        }

        /** The least for every state at once: what the search of choose finds, without looking at each step of each. */
        private void sweep(int f) {
            sweepOver(f, 0);
            sweepOver(f, 1);
            boolean mayWiden = tree.far[f] <= widenTo;
            for (int stock = 0; stock < STOCKS; stock++) {
                long wideLow = lows[STOCKS + stock];
                if (mayWiden && wideLow != DEAD && wideLow + widening < lows[stock]) {
                    lows[stock] = wideLow + widening;
                }
            }
            for (int s = 0; s < STATES && measure == COIN; s++) {
                lows[s] = Math.max(0L, lows[s]);
            }
        }

        /**
         * The least of steps that don't widen. What stays when nothing is traded grows by one from stock to stock; so
         * the best sale is the best one of the stock below, or none, and what is bought is looked for above it.
         */
        private void sweepOver(int f, int isWide) {
            int base = isWide * STOCKS;
            int room = tree.room(isWide);
            long saleLow = DEAD;
            for (int stock = 0; stock < STOCKS; stock++) {
                int idle = stock - tree.need[f];
                if (idle >= 0 && idle <= room && behind[base + idle] != DEAD) {
                    saleLow = Math.min(saleLow, behind[base + idle] + idle * selling);
                }
                long low = saleLow == DEAD ? DEAD : saleLow - idle * selling;
                long buyLow = lowestWhenBought(base, idle, Math.min(room, idle + tree.most[f]));
                lows[base + stock] = Math.min(low, buyLow);
            }
        }

        private long lowestWhenBought(int base, int idle, int fullest) {
            long low = DEAD;
            for (int then = idle < 0 ? 0 : idle + 1; then <= fullest; then++) {
                long rest = behind[base + then];
                if (rest != DEAD && rest + (then - idle) * buying < low) {
                    low = rest + (then - idle) * buying;
                }
            }
            return low;
        }
    }

    /** The states in which one can come to each fork from now on, and the least costs of that. */
    private static final class Ways {
        final Tree tree;
        /** To each end, the least cost on the way to it alone; 0 where no way is lawful. */
        final long[] least = new long[MAX_FORKS];
        private final int[] come = new int[MAX_FORKS * STATES];
        private final int[] leave = new int[STATES];

        Ways(Tree tree) {
            this.tree = tree;
        }

        boolean canCome(int f, int stock, int isWide) {
            return come[f * STATES + isWide * STOCKS + stock] != UNREACHED;
        }

        void trace(int top, int stock, int isWide) {
            Arrays.fill(come, UNREACHED);
            Arrays.fill(least, 0L);
            come[top * STATES + isWide * STOCKS + stock] = 0;
            for (int f = top; f < tree.size; f++) {
                if (tree.isFrom(f, top)) {
                    traceFork(f);
                }
            }
        }

        private void traceFork(int f) {
            Arrays.fill(leave, UNREACHED);
            int row = f * STATES;
            for (int stock = 0; stock < STOCKS; stock++) {
                int paid = come[row + stock];
                if (paid != UNREACHED) {
                    spread(f, stock, 0, paid, tree.fullest(f, stock, 0));
                    paid += tree.widening;
                }
                paid = Math.min(paid, come[row + STOCKS + stock]);
                if (paid != UNREACHED) {
                    spread(f, stock, 1, paid, tree.fullest(f, stock, 1));
                }
            }
            for (int i = 0; i < tree.kids[f]; i++) {
                System.arraycopy(leave, 0, come, tree.kid[f * MAX_KIDS + i] * STATES, STATES);
            }
            if (tree.kids[f] == 0) {
                least[f] = leastToLeave();
            }
        }

        /** Looks at all steps from a stock; widening is paid for already. */
        private void spread(int f, int stock, int wideThen, int paid, int fullest) {
            int base = wideThen * STOCKS;
            int x = tree.boughtFor(f, stock, 0);
            for (int then = 0; then <= fullest; then++) {
                int cost = paid + tree.outlay(f, x + then, 0, then);
                if (cost < leave[base + then]) {
                    leave[base + then] = cost;
                }
            }
        }

        private int leastToLeave() {
            int low = UNREACHED;
            for (int s = 0; s < STATES; s++) {
                low = Math.min(low, leave[s]);
            }
            return low == UNREACHED ? 0 : low;
        }
    }

    /** The plan followed from now on: where it comes in which state, and what it costs up to there. */
    private static final class Walk {
        final Scene scene;
        final boolean[] comes = new boolean[MAX_FORKS];
        final boolean[] lawful = new boolean[MAX_FORKS];
        final int[] stock = new int[MAX_FORKS];
        final int[] wide = new int[MAX_FORKS];
        final int[] stockThen = new int[MAX_FORKS];
        final int[] wideThen = new int[MAX_FORKS];
        final int[] total = new int[MAX_FORKS];
        /** The most that was spent at once on the way, its step included: so much coin must be there. */
        final int[] peak = new int[MAX_FORKS];
        /** Of 10^8, now being sure. */
        final long[] part = new long[MAX_FORKS];
        /** The first fork at which the plan is not lawful though it is at all ahead. */
        int stumble = NONE;
        private final boolean[] counted = new boolean[MAX_FORKS];

        Walk(Scene scene) {
            this.scene = scene;
        }

        void follow() {
            stumble = NONE;
            spreadParts();
            for (int f = 0; f < scene.tree.size; f++) {
                enter(f);
                leave(f);
                if (comes[f] && !lawful[f] && stumble == NONE) {
                    stumble = f;
                }
            }
        }

        void spreadParts() {
            Tree tree = scene.tree;
            for (int f = 0; f < tree.size; f++) {
                int parent = tree.under[f];
                part[f] = parent == NONE ? 0L : part[parent] / 100 * tree.chance[f];
                if (f == scene.fork) {
                    part[f] = ALL_PARTS;
                }
            }
        }

        /** The state in which the plan comes to f; the one that f is under has been left by then. */
        void enter(int f) {
            int parent = scene.tree.under[f];
            if (f == scene.fork) {
                comes[f] = true;
                arrive(f, scene.stock, scene.wide, 0, 0);
            } else if (f > scene.fork && parent != NONE && lawful[parent]) {
                comes[f] = true;
                arrive(f, stockThen[parent], wideThen[parent], total[parent], peak[parent]);
            } else {
                comes[f] = false;
                arrive(f, 0, 0, 0, 0);
            }
        }

        void leave(int f) {
            Tree tree = scene.tree;
            int x = scene.planX[f];
            int b = scene.planB[f];
            lawful[f] = comes[f] && tree.isLawful(f, stock[f], wide[f], x, b);
            if (lawful[f]) {
                stockThen[f] = stock[f] + x - tree.need[f];
                wideThen[f] = wide[f] | b;
                total[f] += tree.outlay(f, x, b, stockThen[f]);
                peak[f] = Math.max(peak[f], total[f]);
            }
        }

        boolean isEndOfPlan(int f) {
            return lawful[f] && scene.tree.kids[f] == 0;
        }

        long partsUpTo(int cost) {
            long sum = 0;
            for (int e = 0; e < scene.tree.size; e++) {
                if (isEndOfPlan(e) && total[e] <= cost) {
                    sum += part[e];
                }
            }
            return sum;
        }

        /** The costs of the worst so many parts, times these parts. */
        long worstParts(long parts) {
            long lacking = parts;
            long sum = 0;
            clearCounted();
            for (int i = 0; i < MAX_FORKS && lacking > 0; i++) {
                int e = dearestLeft();
                if (e == NONE) {
                    return sum;
                }
                counted[e] = true;
                long share = Math.min(lacking, part[e]);
                sum += share * total[e];
                lacking -= share;
            }
            return sum;
        }

        private void arrive(int f, int newStock, int newWide, int newTotal, int newPeak) {
            stock[f] = newStock;
            wide[f] = newWide;
            total[f] = newTotal;
            peak[f] = newPeak;
        }

        private void clearCounted() {
            for (int f = 0; f < MAX_FORKS; f++) {
                counted[f] = false;
            }
        }

        private int dearestLeft() {
            int found = NONE;
            for (int e = 0; e < scene.tree.size; e++) {
                if (isEndOfPlan(e) && !counted[e] && (found == NONE || total[e] > total[found])) {
                    found = e;
                }
            }
            return found;
        }
    }

    /** Forks that are alike have one kind: the greatest number among them. */
    private static final class Likeness {
        final Tree tree;
        final int[] kind = new int[MAX_FORKS];
        /** How many forks there are from one on, those left out that were joined to others. */
        final int[] bulk = new int[MAX_FORKS];
        private final int[] kids = new int[MAX_FORKS];
        private final int[] kid = new int[MAX_FORKS * MAX_KIDS];
        private final int[] odds = new int[MAX_FORKS * MAX_KIDS];

        Likeness(Tree tree) {
            this.tree = tree;
        }

        /** Goes from the last fork on, so that those under a fork are known ahead of it. */
        void sortOut(boolean join) {
            for (int f = tree.size - 1; f >= 0; f--) {
                kids[f] = 0;
                bulk[f] = 1;
                for (int i = 0; i < tree.kids[f]; i++) {
                    list(f, tree.kid[f * MAX_KIDS + i], join);
                }
                kind[f] = kindOf(f);
            }
        }

        int differing() {
            int n = 0;
            for (int f = 0; f < tree.size; f++) {
                if (kind[f] == f) {
                    n++;
                }
            }
            return n;
        }

        private void list(int f, int k, boolean join) {
            int base = f * MAX_KIDS;
            for (int i = 0; join && i < kids[f]; i++) {
                if (kind[kid[base + i]] == kind[k]) {
                    odds[base + i] += tree.chance[k];
                    return;
                }
            }
            kid[base + kids[f]] = k;
            odds[base + kids[f]] = tree.chance[k];
            kids[f]++;
            bulk[f] += bulk[k];
        }

        private int kindOf(int f) {
            for (int g = f + 1; g < tree.size; g++) {
                if (doAlike(f, g) && leadAlike(f, g)) {
                    return kind[g];
                }
            }
            return f;
        }

        private boolean doAlike(int f, int g) {
            return tree.price[f] == tree.price[g] && tree.most[f] == tree.most[g]
                && tree.sell[f] == tree.sell[g] && tree.need[f] == tree.need[g];
        }

        private boolean leadAlike(int f, int g) {
            if (kids[f] != kids[g]) {
                return false;
            }
            for (int i = 0; i < kids[f]; i++) {
                int a = f * MAX_KIDS + i;
                int b = g * MAX_KIDS + i;
                if (odds[a] != odds[b] || kind[kid[a]] != kind[kid[b]]) {
                    return false;
                }
            }
            return true;
        }
    }

    /** Four rows of numbers; all lie in one array, so that no row is made anew. */
    private static final class Slots {
        static final int MOST = 60;
        private static final int SLOTS = 4;

        final int[] width = {NONE, NONE, NONE, NONE};
        final int[] length = new int[SLOTS];
        private final long[] numbers = new long[SLOTS * MOST];

        boolean has(int slot) {
            return slot >= 0 && slot < SLOTS;
        }

        boolean hasRow(int slot) {
            return width[slot] != NONE;
        }

        int filled() {
            int n = 0;
            for (int slot = 0; slot < SLOTS; slot++) {
                if (hasRow(slot)) {
                    n++;
                }
            }
            return n;
        }

        void make(int slot, int newWidth, int n) {
            width[slot] = newWidth;
            length[slot] = n;
            for (int i = 0; i < MOST; i++) {
                numbers[slot * MOST + i] = 0L;
            }
        }

        long number(int slot, int i) {
            return numbers[slot * MOST + i];
        }

        void put(int slot, int i, long v) {
            numbers[slot * MOST + i] = cut(v, width[slot]);
        }

        boolean covers(int slot, int i, int n) {
            return i >= 0 && n >= 0 && n <= length[slot] && i <= length[slot] - n;
        }

        void carry(int slot, int i, int to, int k, int n) {
            System.arraycopy(numbers, slot * MOST + i, numbers, to * MOST + k, n);
        }

        private static long cut(long v, int width) {
            switch (width) {
                case 0:
                    return (byte) v;
                case 1:
                    return (short) v;
                case 2:
                    return (int) v;
                default:
                    return v;
            }
        }
    }
}
