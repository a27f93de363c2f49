import java.math.BigInteger;
import java.util.ArrayList;
import java.util.Arrays;
import java.util.LinkedHashMap;
import java.util.List;
import java.util.Map;
import java.util.TreeSet;

/** The document's words put down in the slowest and plainest way, with the Java library, to compare with. */
final class Plain {
    static final long MOST = 1_000_000_000_000_000L;
    int base = 10;
    final int[] f = new int[16];

    Plain() {
        for (int d = 0; d < 16; d++) {
            f[d] = d;
        }
    }

    List<Integer> figures(long n) {
        List<Integer> all = new ArrayList<>();
        for (char c : Long.toString(n, base).toCharArray()) {
            all.add(Character.digit(c, 16));
        }
        return all;
    }

    BigInteger number(List<Integer> figures) {
        BigInteger n = BigInteger.ZERO;
        for (int d : figures) {
            n = n.multiply(BigInteger.valueOf(base)).add(BigInteger.valueOf(d));
        }
        return n;
    }

    long step(int step, long n) {
        List<Integer> figures = figures(n);
        List<Integer> turned = new ArrayList<>(figures);
        java.util.Collections.reverse(turned);
        List<Integer> rising = new ArrayList<>(figures);
        java.util.Collections.sort(rising);
        List<Integer> falling = new ArrayList<>(rising);
        java.util.Collections.reverse(falling);
        long sum = 0;
        BigInteger product = BigInteger.ONE;
        for (int d : figures) {
            sum += f[d];
            product = product.multiply(BigInteger.valueOf(f[d]));
        }
        switch (step) {
            case 0: return sum;
            case 1: return number(turned).longValueExact();
            case 2: return number(turned).longValueExact() + n;
            case 3: return number(falling).subtract(number(rising)).longValueExact();
            case 4: return n + sum;
            default: return product.min(BigInteger.valueOf(MOST + 1)).longValueExact();
        }
    }

    /** Numbers in the order in which they are told; tail and round beside. */
    static final class Chain {
        final List<Long> told = new ArrayList<>();
        int tail;
        int round;

        boolean lost() {
            return round == 0;
        }

        long least() {
            long least = Long.MAX_VALUE;
            for (long x : told.subList(tail, told.size())) {
                least = Math.min(least, x);
            }
            return least;
        }
    }

    Chain chain(int step, long n) {
        Chain chain = new Chain();
        Map<Long, Integer> places = new LinkedHashMap<>();
        chain.told.add(n);
        places.put(n, 0);
        for (int more = 1; more <= 300; more++) {
            long x = step(step, chain.told.get(chain.told.size() - 1));
            if (x > MOST) {
                chain.tail = chain.told.size();
                return chain;
            }
            if (places.containsKey(x)) {
                chain.tail = places.get(x);
                chain.round = chain.told.size() - chain.tail;
                return chain;
            }
            places.put(x, chain.told.size());
            chain.told.add(x);
        }
        chain.tail = chain.told.size();
        return chain;
    }

    long chained(Chain chain, int i) {
        if (i < chain.told.size()) {
            return chain.told.get(i);
        }
        if (chain.lost()) {
            return -4;
        }
        return chain.told.get(chain.tail + (i - chain.tail) % chain.round);
    }

    TreeSet<Long> rounds(List<Chain> chains) {
        TreeSet<Long> leasts = new TreeSet<>();
        for (Chain chain : chains) {
            if (!chain.lost()) {
                leasts.add(chain.least());
            }
        }
        return leasts;
    }

    List<Chain> chains(int step, int m) {
        List<Chain> all = new ArrayList<>();
        for (int n = 0; n <= m; n++) {
            all.add(chain(step, n));
        }
        return all;
    }

    boolean alike(long n) {
        String text = Long.toString(n, base);
        return new StringBuilder(text).reverse().toString().equals(text);
    }

    /** For all numbers to the most: the fewest numbers above 0 that are alike and make it, 5 if more than 4. */
    int[] fewest(int most) {
        int[] fewest = new int[most + 1];
        Arrays.fill(fewest, 5);
        fewest[0] = 0;
        for (int part = 1; part <= most; part++) {
            if (alike(part)) {
                for (int n = part; n <= most; n++) {
                    fewest[n] = Math.min(fewest[n], fewest[n - part] + 1);
                }
            }
        }
        return fewest;
    }

    List<Long> moved(int w, int p, int q) {
        List<Long> all = new ArrayList<>();
        long shift = (long) Math.pow(base, w - 1);
        for (long n = shift; n < shift * base; n++) {
            long last = n % base;
            if (last > 0 && (last * shift + n / base) * q == n * p) {
                all.add(n);
            }
        }
        return all;
    }

    int again(int b, int n) {
        String text = Integer.toString(b, base);
        long rest = 0;
        for (int times = 1; times <= n; times++) {
            for (char c : text.toCharArray()) {
                rest = (rest * base + Character.digit(c, 16)) % n;
            }
            if (rest == 0) {
                return times;
            }
        }
        return -4;
    }

    List<Long> narrow(int w, int e) {
        List<Long> all = new ArrayList<>();
        long to = (long) Math.pow(base, w);
        for (long n = w == 1 ? 0 : to / base; n < to; n++) {
            long sum = 0;
            for (long left = n; left > 0; left /= base) {
                long power = 1;
                for (int k = 0; k < e; k++) {
                    power *= left % base;
                }
                sum += power;
            }
            if (sum == n) {
                all.add(n);
            }
        }
        return all;
    }
}
