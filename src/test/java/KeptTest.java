import java.util.Random;

/**
 * What an object keeps from earlier calls must never show: in long mixed runs every answer is the one that a
 * new object gives, after it has been given the same base and table and nothing else.
 */
public final class KeptTest {
    private static final int RUNS = 40, CALLS = 450, CHANGES = 20;
    private static final Random RANDOM = new Random(27);
    private static int base;
    private static final int[] table = new int[16];
    /** The same call right behind a change is the likeliest to be answered by what was kept. */
    private static String lastName = "count";
    private static long[] lastGiven = {0};

    public static void main(String[] args) {
        String[] names = Calls.names();
        for (int run = 0; run < RUNS; run++) {
            FigurePlay x = new FigurePlay();
            base = 10;
            for (int d = 0; d < table.length; d++) {
                table[d] = d;
            }
            for (int call = 0; call < CALLS; call++) {
                // Changes are rare, so that there is something to keep between them.
                if (RANDOM.nextInt(CALLS / CHANGES) == 0) {
                    change(x);
                    same(x, lastName, lastGiven);
                } else {
                    some(x, names[RANDOM.nextInt(names.length)]);
                }
            }
        }
        Due.end("KeptTest");
    }

    private static void change(FigurePlay x) {
        if (RANDOM.nextBoolean()) {
            int b = 2 + RANDOM.nextInt(15);
            Due.is("base(" + b + ")", x.base(b), base);
            base = b;
            return;
        }
        int d = RANDOM.nextInt(16);
        int v = RANDOM.nextInt(new int[] {3, 100, 100001}[RANDOM.nextInt(3)]);
        Due.is("table(" + d + ", " + v + ")", x.table(d, v), table[d]);
        table[d] = v;
    }

    private static void some(FigurePlay x, String name) {
        if (name.equals("base") || name.equals("table")) {
            Due.is("base as it was", x.base(base), base);
            return;
        }
        lastName = name;
        lastGiven = given(name);
        same(x, lastName, lastGiven);
    }

    private static void same(FigurePlay x, String name, long[] given) {
        FigurePlay fresh = new FigurePlay();
        fresh.base(base);
        for (int d = 0; d < table.length; d++) {
            fresh.table(d, table[d]);
        }
        Due.is(Calls.told(name, given) + " in base " + base, Calls.answer(x, name, given),
            Calls.answer(fresh, name, given));
    }

    /** Arguments that are mostly right and often the same again, now and then just outside. */
    private static long[] given(String name) {
        switch (name) {
            case "figure": return row(number(), place(20));
            case "step": return row(step(), number());
            case "chain": return row(step(), number(), upTo(1));
            case "chained": return row(step(), number(), upTo(310));
            case "rounds": return row(roundStep(), most(20000), place(6));
            case "first": return row(step(), upTo(20), most(3000));
            case "tallest": return row(step(), most(3000), upTo(1));
            case "lost": return row(step(), most(3000), place(400));
            case "come": return row(roundStep(), most(3000), upTo(20), upTo(1));
            case "makes": return row(step(), upTo(40), most(20000), place(9));
            case "alikeAt": return row(number() / 10000000);
            case "made": return row(1 + upTo(10000));
            case "moved": return row(2 + upTo(10), 1 + upTo(5), 1 + upTo(3), place(3));
            case "few": return row(1 + upTo(60), 1 + upTo(31), place(6));
            case "withAll": return row(1 + upTo(60), 1 + upTo(31), place(6));
            case "summed": return row(1 + upTo(60), 1 + upTo(20), place(4));
            case "again": return row(1 + upTo(300), 1 + upTo(300));
            case "narrow": return row(1 + upTo(3), 1 + upTo(5), place(3));
            case "bare": return row(most(20000), place(300));
            case "raised": return row(most(20000), place(2));
            case "count": return row(upTo(1));
            default: return row(number());
        }
    }

    private static long[] row(long... all) {
        return all;
    }

    private static long step() {
        return upTo(5);
    }

    private static long roundStep() {
        return RANDOM.nextBoolean() ? 0 : 3;
    }

    /** From 0 to the top, or, one time in fifty, one beyond it. */
    private static long upTo(int top) {
        return RANDOM.nextInt(50) == 0 ? top + 1 : RANDOM.nextInt(top + 1);
    }

    private static long place(int top) {
        return RANDOM.nextInt(4) == 0 ? -1 : RANDOM.nextInt(top + 1);
    }

    private static long most(int top) {
        return RANDOM.nextInt(10) == 0 ? top : upTo(top / (1 + RANDOM.nextInt(40)));
    }

    private static long number() {
        return RANDOM.nextInt(3) == 0 ? (long) (RANDOM.nextDouble() * 1e15) : RANDOM.nextInt(3000);
    }
}
