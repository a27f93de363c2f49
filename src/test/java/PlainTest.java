import java.util.ArrayList;
import java.util.List;
import java.util.Random;
import java.util.TreeSet;

/** The class against the plain reference: the same calls in many bases and tables, the answers side by side. */
public final class PlainTest {
    private static final Random RANDOM = new Random(20261118);
    private static FigurePlay play;
    private static Plain plain;

    public static void main(String[] args) {
        for (int turn = 0; turn < 60; turn++) {
            play = new FigurePlay();
            plain = new Plain();
            for (int change = 0; change < 3; change++) {
                setBase(2 + (turn + 5 * change) % 15);
                setTable((turn + change) % 6);
                singles();
                ofNumbersToM(turn % 10 == 0 ? 3000 : 60 + RANDOM.nextInt(300));
                lifts();
            }
        }
        for (int b = 2; b <= 16; b++) {
            play = new FigurePlay();
            plain = new Plain();
            setBase(b);
            mirrors();
            written();
        }
        longRounds();
        edgeOfLost();
        Due.end("PlainTest");
    }

    private static void setBase(int b) {
        Due.is("base(" + b + ")", play.base(b), plain.base);
        plain.base = b;
    }

    /** Tables of many kinds: as made, squares, small ones with many 0s, great ones whose chains are long. */
    private static void setTable(int kind) {
        int all = 0;
        for (int d = 0; d < 16; d++) {
            int v;
            switch (kind) {
                case 0: v = d; break;
                case 1: v = d * d; break;
                case 2: v = RANDOM.nextInt(3); break;
                case 3: v = RANDOM.nextInt(100001); break;
                case 4: v = RANDOM.nextInt(300); break;
                default: v = RANDOM.nextBoolean() ? 0 : RANDOM.nextInt(20); break;
            }
            Due.is("table(" + d + ", " + v + ")", play.table(d, v), plain.f[d]);
            plain.f[d] = v;
            all += v;
        }
        Due.is("count(1)", play.count(1), all);
        Due.is("count(0)", play.count(0), plain.base);
    }

    private static long someNumber() {
        int kind = RANDOM.nextInt(4);
        long n = (long) (RANDOM.nextDouble() * (kind == 0 ? 1e15 : kind == 1 ? 1e9 : kind == 2 ? 1e5 : 300));
        return RANDOM.nextInt(20) == 0 ? Plain.MOST - RANDOM.nextInt(3) : n;
    }

    private static void singles() {
        for (int k = 0; k < 25; k++) {
            long n = someNumber();
            List<Integer> figures = plain.figures(n);
            Due.is("figure(" + n + ", -1)", play.figure(n, -1), figures.size());
            for (int i = 0; i < figures.size(); i++) {
                Due.is("figure(" + n + ", " + i + ")", play.figure(n, i), figures.get(i));
            }
            Due.is("figure(" + n + ", beyond)", play.figure(n, figures.size()), -4);
            for (int step = 0; step < 6; step++) {
                Due.is(told("step", step, n), play.step(step, n), plain.step(step, n));
                Plain.Chain chain = plain.chain(step, n);
                Due.is(told("chain tail", step, n), play.chain(step, n, 0), chain.tail);
                Due.is(told("chain round", step, n), play.chain(step, n, 1), chain.round);
                int end = chain.told.size();
                for (int i : new int[] {0, 1, end / 2, end - 1, end, end + 1, 3 * end, 1000000007, Integer.MAX_VALUE}) {
                    Due.is(told("chained " + i, step, n), play.chained(step, n, i), plain.chained(chain, i));
                }
            }
        }
    }

    private static void ofNumbersToM(int m) {
        for (int step = 0; step < 6; step++) {
            List<Plain.Chain> chains = plain.chains(step, m);
            for (int to : new int[] {m / 2, m, 0, m / 3}) {
                List<Plain.Chain> some = chains.subList(0, to + 1);
                tails(step, to, some);
                if (step == 0 || step == 3) {
                    homes(step, to, some);
                }
                makers(step, to, some);
            }
        }
    }

    private static void tails(int step, int m, List<Plain.Chain> chains) {
        int[] firsts = new int[301];
        java.util.Arrays.fill(firsts, -4);
        int tallest = -4;
        List<Integer> lost = new ArrayList<>();
        for (int n = 0; n <= m; n++) {
            Plain.Chain chain = chains.get(n);
            if (chain.lost()) {
                lost.add(n);
            } else {
                firsts[chain.tail] = firsts[chain.tail] == -4 ? n : firsts[chain.tail];
                tallest = tallest == -4 || chain.tail > chains.get(tallest).tail ? n : tallest;
            }
        }
        for (int k = 0; k <= 300; k += k < 20 ? 1 : 7) {
            Due.is(told("first " + k, step, m), play.first(step, k, m), firsts[k]);
        }
        Due.is(told("tallest", step, m), play.tallest(step, m, 0), tallest);
        Due.is(told("tallest tail", step, m), play.tallest(step, m, 1), tallest == -4 ? -4 : chains.get(tallest).tail);
        Due.is(told("lost", step, m), play.lost(step, m, -1), lost.size());
        for (int i = 0; i < lost.size(); i += 1 + lost.size() / 10) {
            Due.is(told("lost " + i, step, m), play.lost(step, m, i), lost.get(i));
        }
        Due.is(told("lost beyond", step, m), play.lost(step, m, lost.size()), -4);
    }

    private static void homes(int step, int m, List<Plain.Chain> chains) {
        TreeSet<Long> leasts = plain.rounds(chains);
        Due.is(told("rounds", step, m), play.rounds(step, m, -1), leasts.size());
        int i = 0;
        for (long least : leasts) {
            Due.is(told("rounds " + i, step, m), play.rounds(step, m, i), least);
            int comers = 0;
            int length = 0;
            for (Plain.Chain chain : chains) {
                if (!chain.lost() && chain.least() == least) {
                    comers++;
                    length = chain.round;
                }
            }
            Due.is(told("come to " + least, step, m), play.come(step, m, least, 0), comers);
            Due.is(told("come, length of " + least, step, m), play.come(step, m, least, 1), length);
            i++;
        }
        Due.is(told("rounds beyond", step, m), play.rounds(step, m, i), -4);
        for (int k = 0; k < 20; k++) {
            long n = someNumber();
            Plain.Chain chain = plain.chain(step, n);
            if (chain.lost() || chain.tail != 0 || chain.least() != n) {
                Due.is(told("come to no least " + n, step, m), play.come(step, m, n, k % 2), -4);
            } else if (!leasts.contains(n)) {
                Due.is(told("come to a far " + n, step, m), play.come(step, m, n, 0), 0);
                Due.is(told("come, length of a far " + n, step, m), play.come(step, m, n, 1), chain.round);
            }
        }
    }

    private static void makers(int step, int m, List<Plain.Chain> chains) {
        for (int k = 0; k < 3; k++) {
            long n = Math.min(plain.step(step, RANDOM.nextInt(m + 1)), Plain.MOST);
            List<Integer> makers = new ArrayList<>();
            for (int x = 0; x <= m; x++) {
                if (plain.step(step, x) == n) {
                    makers.add(x);
                }
            }
            Due.is(told("makes " + n, step, m), play.makes(step, n, m, -1), makers.size());
            for (int i = 0; i < makers.size(); i += 1 + makers.size() / 5) {
                Due.is(told("makes " + n + " " + i, step, m), play.makes(step, n, m, i), makers.get(i));
            }
            Due.is(told("makes " + n + " beyond", step, m), play.makes(step, n, m, makers.size()), -4);
        }
    }

    private static void lifts() {
        int most = RANDOM.nextInt(20) == 0 ? 20000 : 400;
        List<List<Integer>> lifted = new ArrayList<>();
        for (int n = 0; n <= most; n++) {
            lifted.add(new ArrayList<>());
        }
        for (int x = 0; x <= most; x++) {
            long n = plain.step(4, x);
            if (n <= most) {
                lifted.get((int) n).add(x);
            }
        }
        int bare = 0;
        for (int n = 0; n <= most; n++) {
            List<Integer> from = lifted.get(n);
            if (from.isEmpty()) {
                if (n < 400 || n > most - 100) {
                    Due.is("bare(" + most + ", " + bare + ")", play.bare(most, bare), n);
                }
                bare++;
            }
            if (n < 400 || n > most - 100) {
                Due.is("bare(" + n + ", -1)", play.bare(n, -1), bare);
                Due.is("raised(" + n + ", -1)", play.raised(n, -1), from.size());
                for (int i = 0; i < from.size(); i++) {
                    Due.is("raised(" + n + ", " + i + ")", play.raised(n, i), from.get(i));
                }
                Due.is("raised(" + n + ", beyond)", play.raised(n, from.size()), -4);
            }
        }
        Due.is("bare(" + most + ", beyond)", play.bare(most, bare), -4);
    }

    private static void mirrors() {
        List<Long> alike = new ArrayList<>();
        for (long n = 0; n <= 20000; n++) {
            boolean is = plain.alike(n);
            if (is) {
                alike.add(n);
                Due.is("alikeAt(" + (alike.size() - 1) + ")", play.alikeAt(alike.size() - 1), n);
            }
            Due.is("alike(" + n + ")", play.alike(n), is ? 1 : 0);
            Due.is("alikes(" + n + ")", play.alikes(n), alike.size());
        }
        for (int k = 1; k < alike.size(); k++) {
            for (long n = alike.get(k - 1) + 1; n <= alike.get(k); n++) {
                Due.is("next(" + n + ")", play.next(n), alike.get(k));
            }
        }
        long all = play.alikes(Plain.MOST);
        Due.is("alikeAt(all)", play.alikeAt(all), -4);
        Due.holds("the last is alike, base " + plain.base, plain.alike(play.alikeAt(all - 1)));
        for (int k = 0; k < 300; k++) {
            long i = (long) (RANDOM.nextDouble() * all);
            long n = play.alikeAt(i);
            Due.holds("alikeAt(" + i + ") is alike, base " + plain.base, plain.alike(n) && play.alike(n) == 1);
            Due.is("alikes(" + n + ")", play.alikes(n), i + 1);
            Due.is("alikes(" + (n + 1) + " - 2)", n == 0 ? 0 : play.alikes(n - 1), i);
            long from = someNumber();
            long next = play.next(from);
            boolean none = from > 0 && play.alikes(from - 1) == all;
            Due.is("next(" + from + ")", next, none ? -4 : play.alikeAt(from == 0 ? 0 : play.alikes(from - 1)));
        }
        int[] fewest = plain.fewest(10000);
        for (int n = 1; n <= 10000; n++) {
            Due.is("made(" + n + ")", play.made(n), fewest[n] > 4 ? -4 : fewest[n]);
        }
    }

    private static void written() {
        for (int w = 2; w <= 12 && Math.pow(plain.base, w) < 40000; w++) {
            for (int p = 1; p <= 15; p++) {
                for (int q = 1; q <= 15; q++) {
                    row("moved " + w + " " + p + " " + q, plain.moved(w, p, q), w, p, q, true);
                }
            }
        }
        for (int w = 1; w <= 6; w++) {
            boolean brief = Math.pow(plain.base, w) < 200000;
            for (int e = brief ? 1 : 4 + plain.base % 3; e <= (brief ? 6 : 4 + plain.base % 3); e++) {
                row("narrow " + w + " " + e, plain.narrow(w, e), w, e, 0, false);
            }
        }
        for (int k = 0; k < 150; k++) {
            int b = 1 + RANDOM.nextInt(k % 2 == 0 ? 100000 : 300);
            int n = 1 + RANDOM.nextInt(k % 3 == 0 ? 20000 : 60);
            Due.is("again(" + b + ", " + n + ")", play.again(b, n), plain.again(b, n));
        }
    }

    private static void row(String call, List<Long> due, int a, int b, int c, boolean moved) {
        String name = "base " + plain.base + " " + call;
        Due.is(name, moved ? play.moved(a, b, c, -1) : play.narrow(a, b, -1), due.size());
        for (int i = 0; i <= due.size(); i++) {
            long want = i < due.size() ? due.get(i) : -4;
            Due.is(name + " " + i, moved ? play.moved(a, b, c, i) : play.narrow(a, b, i), want);
        }
    }

    /** To 20000 numbers, which the other parts leave out, and steps by turns, so that what is kept is used again. */
    private static void longRounds() {
        for (int turn = 0; turn < 4; turn++) {
            play = new FigurePlay();
            plain = new Plain();
            setBase(new int[] {16, 10, 13, 2}[turn]);
            setTable(turn == 1 ? 1 : 3);
            for (int m : new int[] {300, 3000, 20000}) {
                for (int step = 0; step <= 3; step += 3) {
                    homes20000(step, m);
                }
            }
        }
    }

    /** Two tables whose chains from numbers to 3000 have a tail and a round of 300 and of 301 together. */
    private static void edgeOfLost() {
        for (int turn = 0; turn < 2; turn++) {
            play = new FigurePlay();
            plain = new Plain();
            setBase(16 - turn);
            Random worths = new Random(turn == 0 ? 39 : 195);
            for (int d = 0; d < 16; d++) {
                int v = worths.nextInt(100001);
                play.table(d, v);
                plain.f[d] = v;
            }
            List<Plain.Chain> chains = plain.chains(0, 3000);
            int[] together = new int[302];
            for (Plain.Chain chain : chains) {
                together[chain.lost() ? chain.told.size() : chain.tail + chain.round]++;
            }
            Due.holds("some have 300, some are lost", together[300] > 0 && together[301] > 0);
            tails(0, 3000, chains);
            homes(0, 3000, chains);
            for (int n = 0; n <= 3000; n++) {
                Due.is(told("chain round", 0, n), play.chain(0, n, 1), chains.get(n).round);
            }
        }
    }

    private static void homes20000(int step, int m) {
        TreeSet<Long> leasts = plain.rounds(plain.chains(step, m));
        Due.is(told("rounds", step, m), play.rounds(step, m, -1), leasts.size());
        int i = 0;
        for (long least : leasts) {
            Due.is(told("rounds " + i, step, m), play.rounds(step, m, i++), least);
        }
    }

    private static String told(String what, int step, long n) {
        return what + " (base " + plain.base + ", table " + java.util.Arrays.toString(plain.f)
            + ", step " + step + ", " + n + ")";
    }
}
