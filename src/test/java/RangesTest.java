import java.util.LinkedHashSet;
import java.util.Set;

/** Every call with arguments at, beside and far from the ends of their ranges: BAD just where one is outside. */
public final class RangesTest {
    private static final long MOST = 1_000_000_000_000_000L;
    private static final long ANY = Integer.MAX_VALUE;
    private static FigurePlay play = new FigurePlay();
    private static int calls = 0;

    private interface Call {
        long of(long[] a);
    }

    public static void main(String[] args) {
        int[] bases = {10, 2, 16, 3};
        for (int b : bases) {
            play = new FigurePlay();
            play.base(b);
            of(b);
        }
        System.out.println(calls + " calls");
        Due.end("RangesTest");
    }

    private static void of(int b) {
        long[] n = {0, MOST}, step = {0, 5}, what = {0, 1}, i = {-1, ANY}, small = {0, 3000}, large = {0, 20000};
        check("figure", a -> play.figure(a[0], (int) a[1]), n, i);
        check("step", a -> play.step((int) a[0], a[1]), step, n);
        check("chain", a -> play.chain((int) a[0], a[1], (int) a[2]), step, n, what);
        check("chained", a -> play.chained((int) a[0], a[1], (int) a[2]), step, n, new long[] {0, ANY});
        check("rounds", a -> play.rounds((int) a[0], (int) a[1], (int) a[2]), new long[] {0, 0}, large, i);
        check("first", a -> play.first((int) a[0], (int) a[1], (int) a[2]), step, new long[] {0, 300}, small);
        check("tallest", a -> play.tallest((int) a[0], (int) a[1], (int) a[2]), step, small, what);
        check("lost", a -> play.lost((int) a[0], (int) a[1], (int) a[2]), step, small, i);
        check("come", a -> play.come((int) a[0], (int) a[1], a[2], (int) a[3]), new long[] {0, 0}, small, n, what);
        check("makes", a -> play.makes((int) a[0], a[1], (int) a[2], (int) a[3]), step, n, large, i);
        check("alike", a -> play.alike(a[0]), n);
        check("alikes", a -> play.alikes(a[0]), n);
        check("alikeAt", a -> play.alikeAt(a[0]), new long[] {0, Long.MAX_VALUE});
        check("next", a -> play.next(a[0]), n);
        check("made", a -> play.made((int) a[0]), new long[] {1, 10000});
        check("moved", a -> play.moved((int) a[0], (int) a[1], (int) a[2], (int) a[3]), new long[] {2, 12},
            new long[] {1, 15}, new long[] {1, 15}, i);
        check("few", a -> play.few((int) a[0], 3, (int) a[1]), new long[] {1, 2000}, i);
        check("withAll", a -> play.withAll((int) a[0], 3, (int) a[1]), new long[] {1, 200}, i);
        check("summed", a -> play.summed((int) a[0], (int) a[1], (int) a[2]), new long[] {1, 300}, new long[] {1, 60}, i);
        check("again", a -> play.again((int) a[0], (int) a[1]), new long[] {1, 100000}, new long[] {1, 20000});
        check("narrow", a -> play.narrow((int) a[0], (int) a[1], (int) a[2]), new long[] {1, 6}, new long[] {1, 6}, i);
        check("bare", a -> play.bare((int) a[0], (int) a[1]), large, i);
        check("raised", a -> play.raised((int) a[0], (int) a[1]), large, i);
        check("count", a -> play.count((int) a[0]), what);
        check("table", a -> play.table((int) a[0], (int) a[1]), new long[] {0, 15}, new long[] {0, 100000});
        sets(b);
        check("base", a -> play.base((int) a[0]), new long[] {2, 16});
    }

    private static void sets(int b) {
        for (int set : new int[] {0, 1, 2, 3, 255, 511, 1023, 1024, 65535, 65536, -1, Integer.MIN_VALUE, Integer.MAX_VALUE}) {
            int many = Integer.bitCount(set & ((1 << b) - 1));
            Due.is("few by " + set + " in base " + b, play.few(7, set, -1) == -1 ? 1 : 0, many == 0 ? 1 : 0);
            Due.is("withAll by " + set + " in base " + b, play.withAll(7, set, -1) == -1 ? 1 : 0,
                many == 0 || many > 8 ? 1 : 0);
        }
    }

    private static void check(String name, Call call, long[]... ranges) {
        fill(name, call, ranges, new long[ranges.length], 0);
    }

    private static void fill(String name, Call call, long[][] ranges, long[] chosen, int k) {
        if (k < ranges.length) {
            for (long x : edges(ranges[k])) {
                chosen[k] = x;
                fill(name, call, ranges, chosen, k + 1);
            }
            return;
        }
        boolean wrong = false;
        for (int p = 0; p < ranges.length; p++) {
            wrong |= chosen[p] < ranges[p][0] || chosen[p] > ranges[p][1];
        }
        long got = call.of(chosen);
        calls++;
        Due.is(name + java.util.Arrays.toString(chosen) + " gave " + got + ", which is BAD", got == -1 ? 1 : 0, wrong ? 1 : 0);
        Due.holds(name + java.util.Arrays.toString(chosen) + " gave " + got, got >= -1 || got == -4);
    }

    /** Long arguments are known by their wide ranges; the others must fit an int. */
    private static Set<Long> edges(long[] range) {
        boolean wide = range[1] > ANY;
        Set<Long> all = new LinkedHashSet<>();
        for (long x : new long[] {range[0] - 1, range[0], range[0] + 1, (range[0] + range[1]) / 2, range[1] - 1, range[1],
                range[1] + 1, wide ? Long.MAX_VALUE : ANY, wide ? Long.MIN_VALUE : Integer.MIN_VALUE}) {
            if (wide || x == (int) x) {
                all.add(x);
            }
        }
        return all;
    }
}
