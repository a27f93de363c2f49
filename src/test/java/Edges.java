/** What tests of edges share: both ends of a range, calls that are refused, what is kept beyond a refused call. */
final class Edges {
    static final long MOST = 1_000_000_000_000_000L;
    static final int BAD = -1, NONE = -4;
    static final int FAR = Integer.MAX_VALUE, FAR_BELOW = Integer.MIN_VALUE;
    private static final int MARKED_BASE = 12;

    interface Call {
        long of(FigurePlay x);
    }

    interface Taking {
        long of(FigurePlay x, long a);
    }

    private Edges() {
    }

    /** What is due at the last right values of a range on new objects; what lies beyond either end is refused. */
    static void ends(String name, Taking call, long least, long dueAtLeast, long most, long dueAtMost) {
        Due.is(name + " of " + least, call.of(new FigurePlay(), least), dueAtLeast);
        Due.is(name + " of " + most, call.of(new FigurePlay(), most), dueAtMost);
        boolean wide = most > FAR;
        beyond(name, call, least - 1, most + 1, wide ? Long.MIN_VALUE : FAR_BELOW, wide ? Long.MAX_VALUE : FAR);
    }

    /** A place in a row: -1 asks how many there are; behind the last one there is none; below -1 is refused. */
    static void places(String name, FigurePlay x, Taking call, long... row) {
        Due.is(name + ", how many", call.of(x, -1), row.length);
        for (int i = 0; i < row.length; i++) {
            Due.is(name + ", at " + i, call.of(x, i), row[i]);
        }
        noneBehind(name, x, call, row.length);
    }

    static void noneBehind(String name, FigurePlay x, Taking call, int many) {
        Due.is(name + ", just behind the last", call.of(x, many), NONE);
        Due.is(name + ", far behind the last", call.of(x, FAR), NONE);
        beyond(name + ", place", call, -2, FAR_BELOW);
    }

    static void beyond(String name, Taking call, long... wrong) {
        for (long a : wrong) {
            refused(name + " of " + a, x -> call.of(x, a));
        }
    }

    /** A refused call answers BAD and leaves the base and the whole table as they were. */
    static void refused(String name, Call call) {
        FigurePlay x = Play.inBase(MARKED_BASE);
        int all = 0;
        for (int d = 0; d < 16; d++) {
            x.table(d, markOf(d));
            all += markOf(d);
        }
        Due.is(name, call.of(x), BAD);
        Due.is(name + ", then the base", x.count(0), MARKED_BASE);
        Due.is(name + ", then all the table", x.count(1), all);
        for (int d = 0; d < 16; d++) {
            Due.is(name + ", then f of " + d, x.table(d, markOf(d)), markOf(d));
        }
    }

    private static int markOf(int d) {
        return 3 * d + 1;
    }

    /** What was found for a right call is answered again, whatever is refused between. */
    static void keeps(String name, FigurePlay x, Call right, long due, Call... wrong) {
        Due.is(name, right.of(x), due);
        for (Call call : wrong) {
            Due.is(name + ", a refused call behind it", call.of(x), BAD);
            Due.is(name + ", behind a refused call", right.of(x), due);
        }
    }
}
