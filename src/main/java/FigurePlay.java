import java.util.Arrays;

/** Numbers by their figures in a base of 2 to 16, and by a table that gives each figure a worth. */
public final class FigurePlay {
    public static final int BAD = -1, NONE = -4;

    private static final long MOST = 1000000000000000L;
    private static final int LEAST_BASE = 2, MOST_BASE = 16, MOST_WORTH = 100000;
    private static final int SUM = 0, TURNED = 1, ADDED = 2, SORTED = 3, RAISED = 4, PRODUCT = 5;
    private static final int STEPS = 6;
    private static final int MOST_TOLD = 301, MOST_TAIL = 300;
    private static final int LOST = -1;
    private static final int SMALL_M = 3000, LARGE_M = 20000;
    private static final int MOST_PARTED = 10000;
    private static final int MOST_WRITTEN = 100000;

    private final Figures figures;
    private final Path path;
    private final Mirrors mirrors;
    private final Ways[] ways;
    // What only some calls need is made at the first of them: an object that never asks stays small.
    private Slots slots;
    private Parts parts;
    private Search search;
    private Narrows narrows;
    private Lifts lifts;

    public FigurePlay() {
        figures = new Figures();
        path = new Path();
        mirrors = new Mirrors(figures);
        ways = new Ways[STEPS];
    }

    // ---- base, table, steps

    public int base(int b) {
        if (!within(b, LEAST_BASE, MOST_BASE)) {
            return BAD;
        }
        int was = figures.base;
        figures.setBase(b);
        return was;
    }

    public int table(int figure, int v) {
        if (!within(figure, 0, MOST_BASE - 1) || !within(v, 0, MOST_WORTH)) {
            return BAD;
        }
        int was = figures.worth[figure];
        figures.setWorth(figure, v);
        return was;
    }

    public int figure(long n, int i) {
        if (!isNumber(n) || i < -1) {
            return BAD;
        }
        int size = figures.split(n);
        if (i == -1) {
            return size;
        }
        return i < size ? figures.row[size - 1 - i] : NONE;
    }

    public long step(int step, long n) {
        if (!isStep(step) || !isNumber(n)) {
            return BAD;
        }
        return figures.make(step, n);
    }

    public int chain(int step, long n, int what) {
        if (!isStep(step) || !isNumber(n) || !within(what, 0, 1)) {
            return BAD;
        }
        path.follow(figures, step, n);
        return what == 0 ? path.tail : path.round;
    }

    public long chained(int step, long n, int i) {
        if (!isStep(step) || !isNumber(n) || i < 0) {
            return BAD;
        }
        path.follow(figures, step, n);
        return path.numberAt(i);
    }

    public long rounds(int step, int m, int i) {
        if (!isRoundStep(step) || !within(m, 0, LARGE_M) || i < -1) {
            return BAD;
        }
        Ways way = waysBy(step);
        way.reach(m);
        return way.circles == null ? NONE : way.circles.leastAt(m, i);
    }

    // ---- of numbers to M

    public int first(int step, int k, int m) {
        if (!isStep(step) || !within(k, 0, MOST_TAIL) || !within(m, 0, SMALL_M)) {
            return BAD;
        }
        Ways way = waysBy(step);
        way.reach(m);
        return way.leastWithTail(k, m);
    }

    public int tallest(int step, int m, int what) {
        if (!isStep(step) || !within(m, 0, SMALL_M) || !within(what, 0, 1)) {
            return BAD;
        }
        Ways way = waysBy(step);
        way.reach(m);
        int n = way.withLongestTail(m);
        if (n < 0) {
            return NONE;
        }
        return what == 0 ? n : way.tails[n];
    }

    public int lost(int step, int m, int i) {
        if (!isStep(step) || !within(m, 0, SMALL_M) || i < -1) {
            return BAD;
        }
        Ways way = waysBy(step);
        way.reach(m);
        return way.lostAt(m, i);
    }

    public int come(int step, int m, long least, int what) {
        if (!isRoundStep(step) || !within(m, 0, SMALL_M) || !isNumber(least) || !within(what, 0, 1)) {
            return BAD;
        }
        path.follow(figures, step, least);
        if (!path.isRoundOfLeast()) {
            return NONE;
        }
        if (what == 1) {
            return path.round;
        }
        Ways way = waysBy(step);
        way.reach(m);
        return way.circles == null ? NONE : way.circles.comersTo(least, m);
    }

    public int makes(int step, long n, int m, int i) {
        if (!isStep(step) || !isNumber(n) || !within(m, 0, LARGE_M) || i < -1) {
            return BAD;
        }
        int seen = 0;
        for (int x = 0; x <= m; x++) {
            if (figures.make(step, x) == n) {
                if (seen == i) {
                    return x;
                }
                seen++;
            }
        }
        return countOrNone(i, seen);
    }

    // ---- alike

    public int alike(long n) {
        if (!isNumber(n)) {
            return BAD;
        }
        return mirrors.isMirror(n) ? 1 : 0;
    }

    public long alikes(long n) {
        return isNumber(n) ? mirrors.manyTo(n) : BAD;
    }

    public long alikeAt(long i) {
        return i >= 0 ? mirrors.at(i) : BAD;
    }

    public long next(long n) {
        return isNumber(n) ? mirrors.leastFrom(n) : BAD;
    }

    public int made(int n) {
        if (!within(n, 1, MOST_PARTED)) {
            return BAD;
        }
        if (parts == null) {
            parts = new Parts(mirrors);
        }
        return parts.fewestFor(n);
    }

    // ---- moved, few, narrow, bare

    public long moved(int w, int p, int q, int i) {
        if (!within(w, 2, 12) || !within(p, 1, 15) || !within(q, 1, 15) || i < -1) {
            return BAD;
        }
        int seen = 0;
        for (int last = 1; last < figures.base; last++) {
            long front = frontOfMoved(w, p, q, last);
            if (front > 0) {
                if (seen == i) {
                    return front * figures.base + last;
                }
                seen++;
            }
        }
        return countOrNone(i, seen);
    }

    public int few(int n, int set, int j) {
        int of = figuresOfBase(set);
        if (!within(n, 1, Search.MOST_FEW) || of == 0 || j < -1) {
            return BAD;
        }
        return searched(Search.FEW, n, of, j);
    }

    public int withAll(int n, int set, int j) {
        int of = figuresOfBase(set);
        if (!within(n, 1, Search.MOST_ALL) || !within(Integer.bitCount(of), 1, Search.MOST_SET) || j < -1) {
            return BAD;
        }
        return searched(Search.ALL, n, of, j);
    }

    public int summed(int n, int s, int j) {
        if (!within(n, 1, Search.MOST_SUMMED) || !within(s, 1, Search.MOST_SUM) || j < -1) {
            return BAD;
        }
        return searched(Search.SUMMED, n, s, j);
    }

    public int again(int b, int n) {
        if (!within(b, 1, MOST_WRITTEN) || !within(n, 1, LARGE_M)) {
            return BAD;
        }
        long shift = figures.power(figures.split(b)) % n;
        long add = b % n;
        long rest = 0;
        for (int times = 1; times <= n; times++) {
            rest = (rest * shift + add) % n;
            if (rest == 0) {
                return times;
            }
        }
        return NONE;
    }

    public long narrow(int w, int e, int i) {
        if (!within(w, 1, 6) || !within(e, 1, 6) || i < -1) {
            return BAD;
        }
        if (narrows == null) {
            narrows = new Narrows();
        }
        narrows.seek(figures.base, w, e);
        return i >= 0 && i < narrows.size ? narrows.found[i] : countOrNone(i, narrows.size);
    }

    public int bare(int m, int i) {
        if (!within(m, 0, LARGE_M) || i < -1) {
            return BAD;
        }
        return liftsNow().unreachedAt(m, i);
    }

    public int raised(int n, int i) {
        if (!within(n, 0, LARGE_M) || i < -1) {
            return BAD;
        }
        return liftsNow().liftedTo(n, i);
    }

    public int count(int what) {
        if (what == 0) {
            return figures.base;
        }
        return what == 1 ? figures.worthOfAll() : BAD;
    }

    private static boolean within(int x, int least, int most) {
        return x >= least && x <= most;
    }

    private static boolean isNumber(long n) {
        return n >= 0 && n <= MOST;
    }

    private static boolean isStep(int step) {
        return step >= 0 && step < STEPS;
    }

    private static boolean isRoundStep(int step) {
        return step == SUM || step == SORTED;
    }

    /** The answer when the i-th was not met among the seen ones: how many there are, if that was asked. */
    private static int countOrNone(int i, int seen) {
        return i == -1 ? seen : NONE;
    }

    private int figuresOfBase(int set) {
        return set & ((1 << figures.base) - 1);
    }

    private Ways waysBy(int step) {
        Ways way = ways[step];
        if (way == null) {
            way = new Ways(figures, path, step, isRoundStep(step) ? new Circles(figures, step, slotsOnce()) : null);
            ways[step] = way;
        }
        return way;
    }

    private Slots slotsOnce() {
        if (slots == null) {
            slots = new Slots();
        }
        return slots;
    }

    private Lifts liftsNow() {
        if (lifts == null) {
            lifts = new Lifts(figures);
        }
        lifts.renew();
        return lifts;
    }

    private int searched(int kind, int n, int want, int j) {
        if (search == null) {
            search = new Search();
        }
        search.seek(kind, figures.base, n, want);
        return search.figureAt(j);
    }

    /**
     * The figures ahead of the last one, as a number, or 0 if there are none such.
     * With a ahead of the last figure d: q (d B^(w-1) + a) = p (a B + d), so a (p B - q) = d (q B^(w-1) - p).
     */
    private long frontOfMoved(int w, int p, int q, int last) {
        long divisor = (long) p * figures.base - q;
        if (divisor <= 0) {
            return 0;
        }
        long whole = last * (q * figures.power(w - 1) - p);
        if (whole <= 0 || whole % divisor != 0) {
            return 0;
        }
        long front = whole / divisor;
        return front >= figures.power(w - 2) && front < figures.power(w - 1) ? front : 0;
    }

    /** The base, the table, and what a step makes of a number by them. */
    private static final class Figures {
        int base = 10;
        final int[] worth = new int[MOST_BASE];
        /** The figures of the number split last, its last figure first. */
        final int[] row = new int[64];
        final int[] many = new int[MOST_BASE];
        /** Grows with every change, so that what was found before can be told from what holds now. */
        int version = 0;

        Figures() {
            for (int d = 0; d < worth.length; d++) {
                worth[d] = d;
            }
        }

        void setBase(int b) {
            if (base != b) {
                base = b;
                version++;
            }
        }

        void setWorth(int d, int v) {
            if (d >= 0 && d < worth.length && worth[d] != v) {
                worth[d] = v;
                version++;
            }
        }

        int worthOfAll() {
            int all = 0;
            for (int d = 0; d < worth.length; d++) {
                all += worth[d];
            }
            return all;
        }

        int split(long n) {
            int size = 0;
            long left = n;
            do {
                row[size] = (int) (left % base);
                left /= base;
                size++;
            } while (left > 0 && size < row.length);
            return size;
        }

        long power(int e) {
            long p = 1;
            for (int k = 0; k < e; k++) {
                p *= base;
            }
            return p;
        }

        long make(int step, long n) {
            int size = split(n);
            switch (step) {
                case SUM:
                    return sumOf(size);
                case TURNED:
                    return turnedOf(size);
                case ADDED:
                    return n + turnedOf(size);
                case SORTED:
                    return sortedOf(size);
                case RAISED:
                    return n + sumOf(size);
                default:
                    return productOf(size);
            }
        }

        /** Such a chain only grows, so that it is lost and need not be walked. */
        boolean growsForEver(int step, long n) {
            return n > 0 && (step == ADDED || step == RAISED && !hasIdleFigure());
        }

        private boolean hasIdleFigure() {
            for (int d = 1; d < base; d++) {
                if (worth[d] == 0) {
                    return true;
                }
            }
            return false;
        }

        private long sumOf(int size) {
            long sum = 0;
            for (int k = 0; k < size; k++) {
                sum += worth[row[k]];
            }
            return sum;
        }

        private long turnedOf(int size) {
            long turned = 0;
            for (int k = 0; k < size; k++) {
                turned = turned * base + row[k];
            }
            return turned;
        }

        private long sortedOf(int size) {
            for (int d = 0; d < base; d++) {
                many[d] = 0;
            }
            for (int k = 0; k < size; k++) {
                many[row[k]]++;
            }
            long falling = 0;
            long rising = 0;
            for (int d = 0; d < base; d++) {
                int other = base - 1 - d;
                for (int k = 0; k < many[d]; k++) {
                    rising = rising * base + d;
                }
                for (int k = 0; k < many[other]; k++) {
                    falling = falling * base + other;
                }
            }
            return falling - rising;
        }

        /** A later 0 must still bring a product down to 0 that has gone above the most. */
        private long productOf(int size) {
            long product = 1;
            for (int k = 0; k < size; k++) {
                int by = worth[row[k]];
                if (by == 0) {
                    return 0;
                }
                product = product > MOST / by ? MOST + 1 : product * by;
            }
            return product;
        }
    }

    /** One chain: what it tells till it comes round or is lost. */
    private static final class Path {
        final long[] told = new long[MOST_TOLD];
        int size = 0;
        int tail = 0;
        /** 0 if the chain is lost. */
        int round = 0;

        void follow(Figures figures, int step, long n) {
            size = 0;
            long x = n;
            long greatest = -1;
            while (size < told.length && x <= MOST) {
                // What is greater than all before is new: growing chains need no look back.
                int at = x > greatest ? -1 : placeOf(x);
                if (at >= 0) {
                    tail = at;
                    round = size - at;
                    return;
                }
                greatest = Math.max(greatest, x);
                told[size] = x;
                size++;
                x = figures.make(step, x);
            }
            tail = size;
            round = 0;
        }

        long numberAt(int i) {
            if (i >= 0 && i < size) {
                return told[i];
            }
            if (round == 0 || i < tail) {
                return NONE;
            }
            return told[tail + (i - tail) % round];
        }

        boolean isRoundOfLeast() {
            if (round == 0 || tail != 0) {
                return false;
            }
            for (int k = 1; k < size; k++) {
                if (told[k] < told[0]) {
                    return false;
                }
            }
            return true;
        }

        private int placeOf(long x) {
            for (int k = size - 1; k >= 0; k--) {
                if (told[k] == x) {
                    return k;
                }
            }
            return -1;
        }
    }

    /** The tails of the chains by one step from 0 on, kept till the base or the table changes. */
    private static final class Ways {
        final Figures figures;
        final Path path;
        final int step;
        /** Only for the steps whose rounds are asked for, null for the others. */
        final Circles circles;
        final int[] tails = new int[SMALL_M + 1];
        int known = 0;
        int version = -1;

        Ways(Figures figures, Path path, int step, Circles circles) {
            this.figures = figures;
            this.path = path;
            this.step = step;
            this.circles = circles;
        }

        void reach(int m) {
            if (version != figures.version) {
                version = figures.version;
                known = 0;
                if (circles != null) {
                    circles.forget();
                }
            }
            for (int k = known; k <= m; k++) {
                // Raised numbers lie above: from the greatest down, the way beyond is mostly known.
                int n = step == RAISED ? m - (k - known) : k;
                int tail = circles != null ? circles.tailFrom(n) : tailFrom(n, m);
                if (n < tails.length) {
                    tails[n] = tail;
                }
            }
            known = Math.max(known, m + 1);
        }

        int leastWithTail(int tail, int m) {
            for (int n = 0; n <= m && n < tails.length; n++) {
                if (tails[n] == tail) {
                    return n;
                }
            }
            return NONE;
        }

        int withLongestTail(int m) {
            int best = -1;
            int longest = LOST;
            for (int n = 0; n <= m && n < tails.length; n++) {
                if (tails[n] > longest) {
                    longest = tails[n];
                    best = n;
                }
            }
            return best;
        }

        int lostAt(int m, int i) {
            int seen = 0;
            for (int n = 0; n <= m && n < tails.length; n++) {
                if (tails[n] == LOST) {
                    if (seen == i) {
                        return n;
                    }
                    seen++;
                }
            }
            return countOrNone(i, seen);
        }

        private int tailFrom(int n, int m) {
            if (figures.growsForEver(step, n)) {
                return LOST;
            }
            if (step == RAISED) {
                long after = figures.make(RAISED, n);
                if (after > n && after <= m && after < tails.length) {
                    return tailAheadOf(tails[(int) after]);
                }
            }
            path.follow(figures, step, n);
            return path.round == 0 ? LOST : path.tail;
        }

        /** One more ahead of a raised chain: these come round only by standing still, with a round of 1. */
        private static int tailAheadOf(int tail) {
            return tail == LOST || tail + 2 > MOST_TAIL ? LOST : tail + 1;
        }
    }

    /**
     * What is known of the numbers that a step reaches, in one table of open slots.
     * From 0 to 20000 on, SUM and SORTED reach below 2 to the 32 and fewer numbers than there are slots:
     * each comes from its figures without their order, in base 13 from at most 27131 of these.
     */
    private static final class Slots {
        static final int SIZE = 32768;
        static final int WALKED = -1;
        /** The stamp above the number, so that nothing need be cleared when the stamp changes. */
        final long[] keys = new long[SIZE];
        final int[] tails = new int[SIZE];
        final int[] homes = new int[SIZE];
        int stamp = 0;

        int renew() {
            stamp++;
            return stamp;
        }

        /** The slot of x, or less than 0 if x has none. */
        int find(long x) {
            long key = keyOf(x);
            int at = slotFor(key);
            return at >= 0 && keys[at] == key ? at : -1;
        }

        boolean put(long x, int tail, int home) {
            long key = keyOf(x);
            int at = slotFor(key);
            if (at < 0) {
                return false;
            }
            keys[at] = key;
            tails[at] = tail;
            homes[at] = home;
            return true;
        }

        private long keyOf(long x) {
            return ((long) stamp << 32) | x;
        }

        private int slotFor(long key) {
            int at = (int) ((key * 40503L) >> 4) & (SIZE - 1);
            for (int k = 0; k < SIZE; k++) {
                if (keys[at] == key || keys[at] >> 32 != stamp) {
                    return at;
                }
                at = (at + 1) & (SIZE - 1);
            }
            return -1;
        }
    }

    /** The rounds of one step, and to which of them the numbers from 0 on come. */
    private static final class Circles {
        static final int NO_ONE = LARGE_M + 1;
        final Figures figures;
        final int step;
        final Slots slots;
        int stamp = -1;
        final int[] homes = new int[SMALL_M + 1];
        int size = 0;
        long[] leasts = new long[16];
        int[] lengths = new int[16];
        /** The least start that comes round there. */
        int[] firstBy = new int[16];
        /** The places of the rounds, by their least numbers. */
        int[] order = new int[16];

        Circles(Figures figures, int step, Slots slots) {
            this.figures = figures;
            this.step = step;
            this.slots = slots;
        }

        void forget() {
            size = 0;
            stamp = -1;
        }

        /** The tail from n, or LOST; starts are asked for one after the other from 0 on. */
        int tailFrom(int n) {
            // The other step may have used the slots since.
            if (stamp != slots.stamp) {
                stamp = slots.renew();
            }
            int ahead = 0;
            int at = slots.find(n);
            if (at < 0) {
                long x = figures.make(step, n);
                if (slots.find(x) < 0) {
                    resolve(x);
                }
                at = slots.find(n);
                if (at < 0) {
                    ahead = 1;
                    at = slots.find(x);
                }
            }
            int home = at < 0 ? -1 : slots.homes[at];
            int tail = at < 0 ? 0 : slots.tails[at] + ahead;
            if (home < 0 || home >= size || tail + lengths[home] > MOST_TAIL) {
                home = -1;
                tail = LOST;
            } else {
                firstBy[home] = Math.min(firstBy[home], n);
            }
            if (n < homes.length) {
                homes[n] = home;
            }
            return tail;
        }

        long leastAt(int m, int i) {
            int seen = 0;
            for (int k = 0; k < size; k++) {
                int home = order[k];
                if (firstBy[home] <= m) {
                    if (seen == i) {
                        return leasts[home];
                    }
                    seen++;
                }
            }
            return countOrNone(i, seen);
        }

        int comersTo(long least, int m) {
            int rank = rankOf(least);
            if (rank >= size || leasts[order[rank]] != least) {
                return 0;
            }
            int comers = 0;
            for (int n = 0; n <= m && n < homes.length; n++) {
                if (homes[n] == order[rank]) {
                    comers++;
                }
            }
            return comers;
        }

        /** Walks from a number without a slot to one that has a slot, then gives all that were walked their tails. */
        private void resolve(long from) {
            int walked = 0;
            long x = from;
            int at = -1;
            while (at < 0 && walked < Slots.SIZE) {
                if (!slots.put(x, walked, Slots.WALKED)) {
                    return;
                }
                walked++;
                x = figures.make(step, x);
                at = slots.find(x);
            }
            if (at < 0) {
                return;
            }
            if (slots.homes[at] == Slots.WALKED) {
                int before = slots.tails[at];
                settle(from, walked, before, 0, roundThrough(x, walked - before));
            } else {
                settle(from, walked, walked, slots.tails[at], slots.homes[at]);
            }
        }

        private void settle(long from, int walked, int before, int beyond, int home) {
            long x = from;
            for (int k = 0; k < walked; k++) {
                slots.put(x, Math.max(before - k, 0) + beyond, home);
                x = figures.make(step, x);
            }
        }

        private int roundThrough(long from, int length) {
            long least = from;
            long x = from;
            for (int k = 1; k < length; k++) {
                x = figures.make(step, x);
                least = Math.min(least, x);
            }
            int rank = rankOf(least);
            if (rank < size && leasts[order[rank]] == least) {
                return order[rank];
            }
            insert(rank, least, length);
            return size - 1;
        }

        /** How many rounds have a lesser least number. */
        private int rankOf(long least) {
            int rank = 0;
            while (rank < size && leasts[order[rank]] < least) {
                rank++;
            }
            return rank;
        }

        private void insert(int rank, long least, int length) {
            if (size == order.length) {
                leasts = Arrays.copyOf(leasts, 2 * size);
                lengths = Arrays.copyOf(lengths, 2 * size);
                firstBy = Arrays.copyOf(firstBy, 2 * size);
                order = Arrays.copyOf(order, 2 * size);
            }
            for (int k = size; k > rank; k--) {
                order[k] = order[k - 1];
            }
            order[rank] = size;
            leasts[size] = least;
            lengths[size] = length;
            firstBy[size] = NO_ONE;
            size++;
        }
    }

    /** Numbers alike both ways, by their front halves. */
    private static final class Mirrors {
        final Figures figures;

        Mirrors(Figures figures) {
            this.figures = figures;
        }

        boolean isMirror(long n) {
            int size = figures.split(n);
            for (int k = 0; k < size / 2; k++) {
                if (figures.row[k] != figures.row[size - 1 - k]) {
                    return false;
                }
            }
            return true;
        }

        long manyTo(long n) {
            int size = figures.split(n);
            long half = halfOf(n, size);
            // 0 stands beside the sizes: its front half does not begin with a figure above 0.
            long many = 1;
            for (int k = 1; k < size; k++) {
                many += manyOfSize(k);
            }
            many += half - leastHalf(size);
            return mirrored(half, size) <= n ? many + 1 : many;
        }

        long at(long i) {
            if (i == 0) {
                return 0;
            }
            int mostSize = figures.split(MOST);
            long left = i - 1;
            for (int size = 1; size <= mostSize; size++) {
                long many = manyOfSize(size);
                if (left < many) {
                    return numberOrNone(mirrored(leastHalf(size) + left, size));
                }
                left -= many;
            }
            return NONE;
        }

        long leastFrom(long n) {
            int size = figures.split(n);
            long half = halfOf(n, size);
            long same = mirrored(half, size);
            // A half of greatest figures alone never comes to the sum: its mirror is as great as can be.
            return numberOrNone(same >= n ? same : mirrored(half + 1, size));
        }

        private static long numberOrNone(long n) {
            return n <= MOST ? n : NONE;
        }

        private long halfOf(long n, int size) {
            long half = n;
            for (int k = 0; k < size / 2; k++) {
                half /= figures.base;
            }
            return half;
        }

        private long leastHalf(int size) {
            return figures.power((size + 1) / 2 - 1);
        }

        private long manyOfSize(int size) {
            return (figures.base - 1) * leastHalf(size);
        }

        private long mirrored(long half, int size) {
            long whole = half;
            long left = size % 2 == 0 ? half : half / figures.base;
            for (int k = 0; k < size / 2; k++) {
                whole = whole * figures.base + left % figures.base;
                left /= figures.base;
            }
            return whole;
        }
    }

    /** Numbers as sums of few numbers that are alike both ways. */
    private static final class Parts {
        final Mirrors mirrors;
        int base = 0;
        final int[] alone = new int[512];
        int size = 0;
        final boolean[] byTwo = new boolean[MOST_PARTED + 1];

        Parts(Mirrors mirrors) {
            this.mirrors = mirrors;
        }

        int fewestFor(int n) {
            renew();
            if (mirrors.isMirror(n)) {
                return 1;
            }
            if (isByTwo(n)) {
                return 2;
            }
            for (int k = 0; k < size; k++) {
                if (isByTwo(n - alone[k])) {
                    return 3;
                }
            }
            for (int part = 1; part <= n / 2; part++) {
                if (isByTwo(part) && isByTwo(n - part)) {
                    return 4;
                }
            }
            return NONE;
        }

        private boolean isByTwo(int n) {
            return n >= 0 && n < byTwo.length && byTwo[n];
        }

        private void renew() {
            if (base == mirrors.figures.base) {
                return;
            }
            base = mirrors.figures.base;
            size = 0;
            while (size < alone.length && mirrors.at(size + 1) <= MOST_PARTED) {
                alone[size] = (int) mirrors.at(size + 1);
                size++;
            }
            for (int n = 0; n < byTwo.length; n++) {
                byTwo[n] = false;
            }
            for (int a = 0; a < size; a++) {
                for (int b = a; b < size && alone[a] + alone[b] < byTwo.length; b++) {
                    byTwo[alone[a] + alone[b]] = true;
                }
            }
        }
    }

    /**
     * The least multiple whose figures keep to a rule: a walk over remainders, shorter numbers ahead of
     * longer ones and lesser ones ahead of greater ones, so that the first to come to the goal is the least.
     * Beside its remainder a state holds what the rule must know of the figures so far.
     */
    private static final class Search {
        static final int FEW = 0, ALL = 1, SUMMED = 2;
        static final int MOST_FEW = 2000, MOST_ALL = 200, MOST_SET = 8, MOST_SUMMED = 300, MOST_SUM = 60;
        static final int STATES = 51200;
        static final int UNSEEN = -1;
        static final int START = STATES;

        final int[] queue = new int[STATES];
        /** By state: 16 times the state before, and the figure that was put behind. */
        final int[] from = new int[STATES];
        final int[] allowed = new int[MOST_BASE];
        int allowedSize = 0;
        int kind = -1;
        int base = 0;
        int n = 0;
        int want = 0;
        int rules = 0;
        int queued = 0;
        int goal = 0;
        int length = 0;

        void seek(int kind, int base, int n, int want) {
            if (this.kind == kind && this.base == base && this.n == n && this.want == want) {
                return;
            }
            this.kind = kind;
            this.base = base;
            this.n = n;
            this.want = want;
            allow(kind == SUMMED ? -1 : want);
            rules = kind == ALL ? 1 << allowedSize : kind == SUMMED ? want + 1 : 1;
            goal = (rules - 1) * n;
            walk();
            measure();
        }

        int figureAt(int j) {
            if (length == 0) {
                return NONE;
            }
            if (j == -1) {
                return length;
            }
            if (j < 0 || j >= length) {
                return NONE;
            }
            int state = goal;
            for (int k = length - 1; k > j; k--) {
                state = from[state] / 16;
            }
            return from[state] % 16;
        }

        private void allow(int set) {
            allowedSize = 0;
            for (int d = 0; d < base && d < allowed.length; d++) {
                if ((set >> d & 1) == 1) {
                    allowed[allowedSize] = d;
                    allowedSize++;
                }
            }
        }

        private void walk() {
            for (int state = 0; state < rules * n && state < STATES; state++) {
                from[state] = UNSEEN;
            }
            queued = 0;
            spread(START);
            for (int k = 0; k < queue.length && k < queued && from[goal] == UNSEEN; k++) {
                spread(queue[k]);
            }
        }

        private void spread(int state) {
            int rest = state == START ? 0 : state % n;
            int rule = state == START ? 0 : state / n;
            for (int k = 0; k < allowedSize; k++) {
                int d = allowed[k];
                int after = ruleAfter(rule, k, d);
                if (after >= rules || state == START && d == 0) {
                    continue;
                }
                int to = after * n + (rest * base + d) % n;
                if (from[to] == UNSEEN && queued < queue.length) {
                    from[to] = 16 * state + d;
                    queue[queued] = to;
                    queued++;
                }
            }
        }

        private int ruleAfter(int rule, int k, int d) {
            return kind == ALL ? rule | 1 << k : kind == SUMMED ? rule + d : 0;
        }

        private void measure() {
            length = 0;
            if (from[goal] == UNSEEN) {
                return;
            }
            for (int state = goal; state != START && length < STATES; state = from[state] / 16) {
                length++;
            }
        }
    }

    /** Numbers that are the sum of their figures' powers, sought by their figures without their order. */
    private static final class Narrows {
        final int[] powers = new int[MOST_BASE];
        final int[] taken = new int[MOST_BASE];
        final int[] left = new int[MOST_BASE];
        int[] found = new int[32];
        int size = 0;
        int base = 0;
        int width = 0;
        int exponent = 0;
        int least = 0;
        int most = 0;

        void seek(int base, int width, int exponent) {
            if (this.base == base && this.width == width && this.exponent == exponent) {
                return;
            }
            this.base = base;
            this.width = width;
            this.exponent = exponent;
            for (int d = 0; d < powers.length; d++) {
                powers[d] = powerOf(d, exponent);
                taken[d] = 0;
            }
            least = width == 1 ? 0 : powerOf(base, width - 1);
            most = powerOf(base, width) - 1;
            size = 0;
            take(this, width, base - 1, 0);
        }

        private static int powerOf(int x, int e) {
            int p = 1;
            for (int k = 0; k < e; k++) {
                p *= x;
            }
            return p;
        }

        /** Falling figures; goes no deeper than the width, which is 6 at most. */
        private static void take(Narrows to, int open, int top, int sum) {
            if (open <= 0) {
                to.look(sum);
                return;
            }
            for (int d = Math.min(top, MOST_BASE - 1); d >= 0; d--) {
                int power = to.powers[d];
                if (sum + open * power < to.least) {
                    return;
                }
                if (sum + power <= to.most) {
                    to.taken[d]++;
                    take(to, open - 1, d, sum + power);
                    to.taken[d]--;
                }
            }
        }

        private void look(int sum) {
            for (int d = 0; d < left.length; d++) {
                left[d] = taken[d];
            }
            int rest = sum;
            for (int k = 0; k < width; k++) {
                int d = rest % base;
                if (left[d] == 0) {
                    return;
                }
                left[d]--;
                rest /= base;
            }
            insert(sum);
        }

        private void insert(int n) {
            if (size == found.length) {
                found = Arrays.copyOf(found, 2 * size);
            }
            int at = size;
            while (at > 0 && found[at - 1] > n) {
                found[at] = found[at - 1];
                at--;
            }
            found[at] = n;
            size++;
        }
    }

    /** What raising makes of the numbers to 20000, kept till the base or the table changes. */
    private static final class Lifts {
        final Figures figures;
        int version = -1;
        final int[] sums = new int[LARGE_M + 1];
        final boolean[] reached = new boolean[LARGE_M + 1];

        Lifts(Figures figures) {
            this.figures = figures;
        }

        void renew() {
            if (version == figures.version) {
                return;
            }
            version = figures.version;
            for (int n = 0; n < reached.length; n++) {
                reached[n] = false;
            }
            for (int n = 0; n < sums.length; n++) {
                int last = figures.worth[n % figures.base];
                sums[n] = n < figures.base ? last : sums[n / figures.base] + last;
                if (n + sums[n] < reached.length) {
                    reached[n + sums[n]] = true;
                }
            }
        }

        int unreachedAt(int m, int i) {
            int seen = 0;
            for (int n = 0; n <= m && n < reached.length; n++) {
                if (!reached[n]) {
                    if (seen == i) {
                        return n;
                    }
                    seen++;
                }
            }
            return countOrNone(i, seen);
        }

        /** Raising never lessens a number, so that none above n can come to n. */
        int liftedTo(int n, int i) {
            int seen = 0;
            for (int x = 0; x <= n && x < sums.length; x++) {
                if (x + sums[x] == n) {
                    if (seen == i) {
                        return x;
                    }
                    seen++;
                }
            }
            return countOrNone(i, seen);
        }
    }
}
