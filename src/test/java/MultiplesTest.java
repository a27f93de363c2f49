import java.math.BigInteger;
import java.util.ArrayList;
import java.util.List;
import java.util.Random;

/** Least multiples, against a trial of all multiples and, where none of these is near, against slow relaxing. */
public final class MultiplesTest {
    private static final int FEW = 0, ALL = 1, SUMMED = 2;
    private static final int TRIED = 20000;
    private static final Random RANDOM = new Random(7);
    private static FigurePlay play;
    private static int base;

    public static void main(String[] args) {
        for (base = 2; base <= 16; base++) {
            play = new FigurePlay();
            play.base(base);
            for (int k = 0; k < 120; k++) {
                int set = 1 + RANDOM.nextInt((1 << base) - 1);
                set = k % 3 == 0 ? set & RANDOM.nextInt(1 << base) & RANDOM.nextInt(1 << base) : set;
                if (set != 0) {
                    look(FEW, 1 + RANDOM.nextInt(k % 4 == 0 ? 2000 : 40), set);
                }
                if (Integer.bitCount(set) >= 1 && Integer.bitCount(set) <= 8) {
                    look(ALL, 1 + RANDOM.nextInt(k % 4 == 0 ? 200 : 12), set);
                }
                look(SUMMED, 1 + RANDOM.nextInt(k % 4 == 0 ? 300 : 20), 1 + RANDOM.nextInt(k % 4 == 1 ? 60 : 20));
            }
        }
        Due.end("MultiplesTest");
    }

    private static int ask(int kind, int n, int want, int j) {
        switch (kind) {
            case FEW: return play.few(n, want, j);
            case ALL: return play.withAll(n, want, j);
            default: return play.summed(n, want, j);
        }
    }

    private static boolean fits(int kind, int want, String text) {
        int sum = 0;
        int set = 0;
        for (char c : text.toCharArray()) {
            sum += Character.digit(c, 16);
            set |= 1 << Character.digit(c, 16);
        }
        switch (kind) {
            case FEW: return (set & ~want) == 0;
            case ALL: return set == want;
            default: return sum == want;
        }
    }

    private static void look(int kind, int n, int want) {
        String call = "base " + base + " kind " + kind + " of " + n + " by " + want;
        String due = byTrial(kind, n, want);
        int length = ask(kind, n, want, -1);
        if (due == null && n <= 40) {
            due = byRelaxing(kind, n, want);
            if (due == null) {
                Due.is(call, length, -4);
                Due.is(call + " figure 0", ask(kind, n, want, 0), -4);
                return;
            }
        }
        StringBuilder got = new StringBuilder();
        for (int j = 0; j < length; j++) {
            got.append(Character.forDigit(ask(kind, n, want, j), 16));
        }
        if (due != null) {
            Due.holds(call + " is " + got + ", due is " + due, got.toString().equals(due));
            Due.is(call + " beyond", ask(kind, n, want, due.length()), -4);
        } else if (length != -4) {
            BigInteger whole = new BigInteger(got.toString(), base);
            Due.holds(call + " fits: " + got, fits(kind, want, got.toString()));
            Due.is(call + " is a multiple", whole.mod(BigInteger.valueOf(n)).intValue(), 0);
            Due.holds(call + " is beyond the trial", whole.compareTo(BigInteger.valueOf((long) n * TRIED)) > 0);
        }
    }

    private static String byTrial(int kind, int n, int want) {
        for (long times = 1; times <= TRIED; times++) {
            String text = Long.toString(n * times, base);
            if (fits(kind, want, text)) {
                return text;
            }
        }
        return null;
    }

    /** The least number for every remainder and every set or sum so far, made less till nothing gets less. */
    private static String byRelaxing(int kind, int n, int want) {
        int rules = kind == ALL ? 1 << base : kind == SUMMED ? want + 1 : 1;
        BigInteger[] least = new BigInteger[rules * n];
        List<Integer> open = new ArrayList<>();
        for (int d = 1; d < base; d++) {
            relax(kind, n, want, least, open, BigInteger.ZERO, 0, 0, d);
        }
        for (int k = 0; k < open.size(); k++) {
            int state = open.get(k);
            for (int d = 0; d < base; d++) {
                relax(kind, n, want, least, open, least[state], state % n, state / n, d);
            }
        }
        BigInteger found = least[(kind == ALL ? want : kind == SUMMED ? want : 0) * n];
        return found == null ? null : found.toString(base);
    }

    private static void relax(int kind, int n, int want, BigInteger[] least, List<Integer> open, BigInteger from,
            int rest, int rule, int d) {
        if (kind != SUMMED && (want >> d & 1) == 0) {
            return;
        }
        int after = kind == ALL ? rule | 1 << d : kind == SUMMED ? rule + d : 0;
        if (kind == SUMMED && after > want) {
            return;
        }
        BigInteger to = from.multiply(BigInteger.valueOf(base)).add(BigInteger.valueOf(d));
        int state = after * n + (rest * base + d) % n;
        if (least[state] == null || to.compareTo(least[state]) < 0) {
            least[state] = to;
            open.add(state);
        }
    }
}
