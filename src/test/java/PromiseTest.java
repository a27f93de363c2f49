/** Each promise by itself: ordinary inputs, the edges that the document names, wrong inputs. */
public final class PromiseTest {
    private static final long MOST = 1_000_000_000_000_000L;
    private static final int BAD = -1, NONE = -4;

    public static void main(String[] args) {
        newObject();
        base();
        table();
        figure();
        steps();
        cappedProduct();
        wrongSteps();
        chain();
        edgeOfLost();
        chained();
        rounds();
        first();
        tallest();
        lost();
        come();
        makes();
        alike();
        alikes();
        alikeAt();
        next();
        made();
        moved();
        few();
        withAll();
        summed();
        again();
        narrow();
        bare();
        raised();
        count();
        wrongChangesNothing();
        keptIsRenewed();
        keptByArguments();
        Due.end("PromiseTest");
    }

    /** Promise 1. */
    private static void newObject() {
        FigurePlay x = new FigurePlay();
        Due.is("BAD", FigurePlay.BAD, BAD);
        Due.is("NONE", FigurePlay.NONE, NONE);
        Due.is("new: base", x.count(0), 10);
        for (int d = 0; d < 16; d++) {
            Due.is("new: table of " + d, x.table(d, d), d);
        }
        FigurePlay other = new FigurePlay();
        other.base(7);
        other.table(3, 99);
        Due.is("objects are apart: base", x.count(0), 10);
        Due.is("objects are apart: table", x.count(1), 120);
    }

    /** Promise 2. */
    private static void base() {
        FigurePlay x = new FigurePlay();
        Due.is("base(2)", x.base(2), 10);
        Due.is("base(16)", x.base(16), 2);
        Due.is("base(16) again", x.base(16), 16);
        for (int b : new int[] {1, 0, -1, 17, Integer.MAX_VALUE, Integer.MIN_VALUE}) {
            Due.is("base(" + b + ")", x.base(b), BAD);
        }
        Due.is("base(3)", x.base(3), 16);
        Due.is("figure(8, 0) in base 3", x.figure(8, 0), 2);
    }

    /** Promise 3. */
    private static void table() {
        FigurePlay x = new FigurePlay();
        Due.is("table(0, 100000)", x.table(0, 100000), 0);
        Due.is("table(0, 0)", x.table(0, 0), 100000);
        Due.is("table(15, 7)", x.table(15, 7), 15);
        Due.is("table(15, 8)", x.table(15, 8), 7);
        Due.is("table(16, 1)", x.table(16, 1), BAD);
        Due.is("table(-1, 1)", x.table(-1, 1), BAD);
        Due.is("table(1, -1)", x.table(1, -1), BAD);
        Due.is("table(1, 100001)", x.table(1, 100001), BAD);
        x.base(2);
        Due.is("figures beyond the base have a worth", x.table(15, 3), 8);
        x.base(16);
        Due.is("the table stays when the base changes", x.step(0, 255), 6);
    }

    /** Promise 4. */
    private static void figure() {
        FigurePlay x = new FigurePlay();
        Due.is("figure(0, -1)", x.figure(0, -1), 1);
        Due.is("figure(0, 0)", x.figure(0, 0), 0);
        Due.is("figure(907, 0)", x.figure(907, 0), 9);
        Due.is("figure(907, 1)", x.figure(907, 1), 0);
        Due.is("figure(907, 2)", x.figure(907, 2), 7);
        Due.is("figure(907, 3)", x.figure(907, 3), NONE);
        Due.is("figure(907, max)", x.figure(907, Integer.MAX_VALUE), NONE);
        Due.is("figure(907, -2)", x.figure(907, -2), BAD);
        Due.is("figure(907, min)", x.figure(907, Integer.MIN_VALUE), BAD);
        Due.is("figure(MOST, -1)", x.figure(MOST, -1), 16);
        Due.is("figure(MOST, 15)", x.figure(MOST, 15), 0);
        Due.is("figure(MOST + 1, -1)", x.figure(MOST + 1, -1), BAD);
        Due.is("figure(-1, 9)", x.figure(-1, 9), BAD);
        Due.is("base 2, figure(MOST, -1)", Play.inBase(2).figure(MOST, -1), 50);
        Due.is("base 16, figure(255, 1)", Play.inBase(16).figure(255, 1), 15);
    }

    /** Promise 5. */
    private static void steps() {
        FigurePlay x = new FigurePlay();
        long[] of4205 = {11, 5024, 9229, 5420 - 245, 4216, 0};
        long[] of0 = {0, 0, 0, 0, 0, 0};
        for (int step = 0; step < 6; step++) {
            Due.is("step " + step + " of 4205", x.step(step, 4205), of4205[step]);
            Due.is("step " + step + " of 0", x.step(step, 0), of0[step]);
        }
        Due.is("turned loses 0s ahead", x.step(1, 1200), 21);
        Due.is("turned MOST", x.step(1, MOST), 1);
        Due.is("added MOST", x.step(2, MOST), MOST + 1);
        Due.is("sorted counts 0s ahead", x.step(3, 1000), 999);
        Due.is("sorted of one figure", x.step(3, 7), 0);
        Due.is("product", x.step(5, 2345), 120);
        FigurePlay squares = Play.squares();
        Due.is("sum by the table", squares.step(0, 345), 50);
        Due.is("raised by the table", squares.step(4, 345), 395);
        Due.is("product by the table", squares.step(5, 345), 9 * 16 * 25);
        Due.is("turned without the table", squares.step(1, 345), 543);
        Due.is("sorted without the table", squares.step(3, 345), 543 - 345);
        FigurePlay zero = Play.withTable(10, 7);
        Due.is("sum of 0 is f of 0", zero.step(0, 0), 7);
        Due.is("raised of 0", zero.step(4, 0), 7);
        Due.is("product of 0", zero.step(5, 0), 7);
        FigurePlay two = Play.inBase(2);
        long ones = (1L << 49) - 1;
        Due.is("base 2, turned beyond MOST", two.step(1, (1L << 49) + ones - 1 - (1L << 47)), turnedBits());
        Due.is("base 2, sorted beyond MOST", two.step(3, (1L << 49) + (1L << 25) - 1),
            ((1L << 26) - 1) * ((1L << 24) - 1));
    }

    private static long turnedBits() {
        String text = Long.toBinaryString((1L << 49) + ((1L << 49) - 1) - 1 - (1L << 47));
        return Long.parseLong(new StringBuilder(text).reverse().toString(), 2);
    }

    /** Promise 5: what is above 10 to the 15 by PRODUCT. */
    private static void cappedProduct() {
        FigurePlay x = Play.withTable(10, 0, 1, 100000, 10);
        Due.is("product of 222", x.step(5, 222), MOST);
        Due.is("product of 2223", x.step(5, 2223), MOST + 1);
        Due.is("product of 3222", x.step(5, 3222), MOST + 1);
        Due.is("product of 2221", x.step(5, 2221), MOST);
        Due.is("product of 22220, a 0 behind", x.step(5, 22220), 0);
        Due.is("product of 2022222, a 0 between", x.step(5, 2022222), 0);
        Due.is("product of 222222222222222", x.step(5, 222222222222222L), MOST + 1);
    }

    private static void wrongSteps() {
        FigurePlay x = new FigurePlay();
        for (int step : new int[] {-1, 6, Integer.MIN_VALUE, Integer.MAX_VALUE}) {
            Due.is("step", x.step(step, 1), BAD);
            Due.is("chain", x.chain(step, 1, 0), BAD);
            Due.is("chained", x.chained(step, 1, 0), BAD);
            Due.is("rounds", x.rounds(step, 1, -1), BAD);
            Due.is("first", x.first(step, 0, 1), BAD);
            Due.is("tallest", x.tallest(step, 1, 0), BAD);
            Due.is("lost", x.lost(step, 1, -1), BAD);
            Due.is("come", x.come(step, 1, 0, 0), BAD);
            Due.is("makes", x.makes(step, 1, 1, -1), BAD);
        }
        for (int step : new int[] {1, 2, 4, 5}) {
            Due.is("rounds by step " + step, x.rounds(step, 1, -1), BAD);
            Due.is("come by step " + step, x.come(step, 1, 0, 0), BAD);
        }
        for (long n : new long[] {-1, MOST + 1, Long.MIN_VALUE, Long.MAX_VALUE}) {
            Due.is("step of " + n, x.step(0, n), BAD);
            Due.is("chain of " + n, x.chain(0, n, 0), BAD);
            Due.is("chained of " + n, x.chained(0, n, 0), BAD);
            Due.is("come to " + n, x.come(0, 1, n, 0), BAD);
            Due.is("makes " + n, x.makes(0, n, 1, -1), BAD);
            Due.is("alike " + n, x.alike(n), BAD);
            Due.is("alikes " + n, x.alikes(n), BAD);
            Due.is("next " + n, x.next(n), BAD);
        }
    }

    /** Promise 6. */
    private static void chain() {
        FigurePlay x = new FigurePlay();
        Due.is("9999 by sum, tail", x.chain(0, 9999, 0), 2);
        Due.is("9999 by sum, round", x.chain(0, 9999, 1), 1);
        Due.is("12 by turned, tail", x.chain(1, 12, 0), 0);
        Due.is("12 by turned, round", x.chain(1, 12, 1), 2);
        Due.is("196 by added, tail", x.chain(2, 196, 0), 30);
        Due.is("196 by added, round", x.chain(2, 196, 1), 0);
        Due.is("1 by raised, tail", x.chain(4, 1, 0), 301);
        Due.is("1 by raised, round", x.chain(4, 1, 1), 0);
        Due.is("MOST by added, tail", x.chain(2, MOST, 0), 1);
        Due.is("squares of 4, tail", Play.squares().chain(0, 4, 0), 0);
        Due.is("squares of 4, round", Play.squares().chain(0, 4, 1), 8);
        Due.is("squares of 89, round", Play.squares().chain(0, 89, 1), 8);
        Due.is("what 2", x.chain(0, 1, 2), BAD);
        Due.is("what -1", x.chain(0, 1, -1), BAD);
        FigurePlay two = Play.inBase(2);
        Due.is("base 2, sorted is lost above MOST", two.chain(3, (1L << 49) + (1L << 24) - 1, 1), 0);
        Due.is("base 2, sorted is lost at once", two.chain(3, (1L << 49) + (1L << 24) - 1, 0), 1);
    }

    /**
     * Promises 6 and 7: a chain that grows by its 1s alone and stands still at 2000.
     * With n and 300 more told it is lost, though the next number would have come again.
     */
    private static void edgeOfLost() {
        FigurePlay x = Play.withTable(10, 0, 1);
        java.util.ArrayList<Long> way = new java.util.ArrayList<>();
        for (long n = 1000; n < 2000; n = x.step(4, n)) {
            way.add(n);
        }
        int size = way.size();
        long last = x.step(4, way.get(size - 1));
        Due.is("it stands still", x.step(4, last), last);
        long comes = way.get(size - 299);
        Due.is("tail of 299", x.chain(4, comes, 0), 299);
        Due.is("round of 1", x.chain(4, comes, 1), 1);
        Due.is("it goes on round", x.chained(4, comes, 301), last);
        long gone = way.get(size - 300);
        Due.is("301 told", x.chain(4, gone, 0), 301);
        Due.is("lost", x.chain(4, gone, 1), 0);
        Due.is("the last one told", x.chained(4, gone, 300), last);
        Due.is("none beyond", x.chained(4, gone, 301), NONE);
        int first = NONE;
        int lost = 0;
        for (int n = 3000; n >= 0; n--) {
            first = x.chain(4, n, 1) == 1 && x.chain(4, n, 0) == 299 ? n : first;
            lost += x.chain(4, n, 1) == 0 ? 1 : 0;
        }
        Due.is("first with a tail of 299", x.first(4, 299, 3000), first);
        Due.holds("there is one", first >= 0 && first <= comes);
        Due.is("so many are lost", x.lost(4, 3000, -1), lost);
        Due.is("the tallest has a tail of 299", x.tallest(4, 3000, 1), 299);
        Due.is("first with a tail of 300", x.first(4, 300, 3000), NONE);
    }

    /** Promise 7. */
    private static void chained() {
        FigurePlay x = Play.squares();
        long[] way = {4, 16, 37, 58, 89, 145, 42, 20, 4, 16};
        for (int i = 0; i < way.length; i++) {
            Due.is("chained(0, 4, " + i + ")", x.chained(0, 4, i), way[i]);
        }
        Due.is("chained(0, 4, 2000000001)", x.chained(0, 4, 2000000001), 16);
        Due.is("chained(0, 2, 1)", x.chained(0, 2, 1), 4);
        Due.is("chained(0, 4, -1)", x.chained(0, 4, -1), BAD);
        FigurePlay y = new FigurePlay();
        Due.is("chained(2, 196, 29)", y.chained(2, 196, 29) <= MOST ? 1 : 0, 1);
        Due.is("chained(2, 196, 30)", y.chained(2, 196, 30), NONE);
        Due.is("chained(2, 196, max)", y.chained(2, 196, Integer.MAX_VALUE), NONE);
        Due.is("chained(4, 1, 300)", y.chained(4, 1, 300), 4375);
        Due.is("chained(4, 1, 301)", y.chained(4, 1, 301), NONE);
    }

    /** Promise 8. */
    private static void rounds() {
        FigurePlay x = new FigurePlay();
        Due.is("rounds(0, 0, -1)", x.rounds(0, 0, -1), 1);
        Due.is("rounds(0, 20000, -1)", x.rounds(0, 20000, -1), 10);
        Due.is("rounds(0, 20000, 9)", x.rounds(0, 20000, 9), 9);
        Due.is("rounds(0, 20000, 10)", x.rounds(0, 20000, 10), NONE);
        Due.is("rounds(0, 5, -1) after a greater m", x.rounds(0, 5, -1), 6);
        Due.is("rounds(0, 5, 5)", x.rounds(0, 5, 5), 5);
        Due.is("rounds(0, 5, 6)", x.rounds(0, 5, 6), NONE);
        Due.is("rounds(3, 99, -1)", x.rounds(3, 99, -1), 1);
        Due.is("rounds(3, 9999, 2)", x.rounds(3, 9999, 2), 6174);
        Due.is("rounds(0, 20001, -1)", x.rounds(0, 20001, -1), BAD);
        Due.is("rounds(0, -1, -1)", x.rounds(0, -1, -1), BAD);
        Due.is("rounds(0, 5, -2)", x.rounds(0, 5, -2), BAD);
        Due.is("squares", Play.squares().rounds(0, 1000, 2), 4);
    }

    /** Promise 9. */
    private static void first() {
        FigurePlay x = new FigurePlay();
        Due.is("first(0, 0, 0)", x.first(0, 0, 0), 0);
        Due.is("first(0, 3, 199)", x.first(0, 3, 199), 199);
        Due.is("first(0, 3, 198)", x.first(0, 3, 198), NONE);
        Due.is("first(0, 300, 3000)", x.first(0, 300, 3000), NONE);
        Due.is("first(0, 301, 5)", x.first(0, 301, 5), BAD);
        Due.is("first(0, -1, 5)", x.first(0, -1, 5), BAD);
        Due.is("first(0, 0, 3001)", x.first(0, 0, 3001), BAD);
        Due.is("first(0, 0, -1)", x.first(0, 0, -1), BAD);
        Due.is("first(1, 1, 3000)", x.first(1, 1, 3000), 10);
        Due.is("lost ones are not counted", x.first(2, 30, 200), NONE);
        Due.is("first(5, 5, 3000)", x.first(5, 5, 3000), 679);
    }

    /** Promise 10. */
    private static void tallest() {
        FigurePlay x = new FigurePlay();
        Due.is("tallest(0, 300, 0)", x.tallest(0, 300, 0), 199);
        Due.is("tallest(0, 300, 1)", x.tallest(0, 300, 1), 3);
        Due.is("the least of several", x.tallest(0, 9, 0), 0);
        Due.is("tallest(3, 3000, 0)", x.tallest(3, 3000, 0), 1004);
        Due.is("tallest(2, 3000, 0), of 0 alone", x.tallest(2, 3000, 0), 0);
        Due.is("tallest(2, 3000, 1)", x.tallest(2, 3000, 1), 0);
        Due.is("tallest(0, 3001, 0)", x.tallest(0, 3001, 0), BAD);
        Due.is("tallest(0, -1, 0)", x.tallest(0, -1, 0), BAD);
        Due.is("tallest(0, 1, -1)", x.tallest(0, 1, -1), BAD);
        Due.is("tallest(0, 1, 2)", x.tallest(0, 1, 2), BAD);
        FigurePlay none = Play.withTable(10, 1, 1, 1, 1, 1, 1, 1, 1, 1, 1);
        Due.is("none comes round", none.tallest(4, 3000, 0), NONE);
        Due.is("none comes round, its tail", none.tallest(4, 3000, 1), NONE);
    }

    /** Promise 11. */
    private static void lost() {
        FigurePlay x = new FigurePlay();
        Due.is("lost(4, 50, -1)", x.lost(4, 50, -1), 50);
        Due.is("lost(4, 50, 0)", x.lost(4, 50, 0), 1);
        Due.is("lost(4, 50, 49)", x.lost(4, 50, 49), 50);
        Due.is("lost(4, 50, 50)", x.lost(4, 50, 50), NONE);
        Due.is("lost(4, 0, -1)", x.lost(4, 0, -1), 0);
        Due.is("lost(2, 3000, -1)", x.lost(2, 3000, -1), 3000);
        Due.is("lost(0, 3000, 0)", x.lost(0, 3000, 0), NONE);
        Due.is("lost(0, 3001, -1)", x.lost(0, 3001, -1), BAD);
        Due.is("lost(0, -1, -1)", x.lost(0, -1, -1), BAD);
        Due.is("lost(0, 5, -2)", x.lost(0, 5, -2), BAD);
        FigurePlay great = Play.withTable(10, 1, 1, 1, 1, 1, 1, 1, 1, 1, 100000);
        Due.is("lost by product above MOST", great.lost(5, 999, -1), 0);
        Due.is("9999 has a product above MOST", great.chain(5, 9999, 1), 0);
        Due.is("f(0) above 0 makes 0 grow", Play.withTable(10, 1, 1, 1, 1, 1, 1, 1, 1, 1, 1).lost(4, 3, 0), 0);
    }

    /** Promise 12. */
    private static void come() {
        FigurePlay x = Play.squares();
        Due.is("come(0, 1000, 1, 0)", x.come(0, 1000, 1, 0), 143);
        Due.is("come(0, 1000, 4, 0)", x.come(0, 1000, 4, 0), 857);
        Due.is("come(0, 1000, 4, 1)", x.come(0, 1000, 4, 1), 8);
        Due.is("come(0, 1000, 16, 0), not the least", x.come(0, 1000, 16, 0), NONE);
        Due.is("come(0, 1000, 7, 1), a tail", x.come(0, 1000, 7, 1), NONE);
        Due.is("come(0, 0, 4, 0), none comes", x.come(0, 0, 4, 0), 0);
        Due.is("come(0, 0, 4, 1)", x.come(0, 0, 4, 1), 8);
        Due.is("come(0, 3001, 4, 0)", x.come(0, 3001, 4, 0), BAD);
        Due.is("come(0, -1, 4, 0)", x.come(0, -1, 4, 0), BAD);
        Due.is("come(0, 5, 4, 2)", x.come(0, 5, 4, 2), BAD);
        Due.is("come(0, 5, 4, -1)", x.come(0, 5, 4, -1), BAD);
        Due.is("come(0, 5, 16, 2)", x.come(0, 5, 16, 2), BAD);
        FigurePlay y = new FigurePlay();
        Due.is("come(3, 999, 495, 0)", y.come(3, 999, 495, 0), 840);
        Due.is("come(3, 10, 6174, 0), a far round", y.come(3, 10, 6174, 0), 0);
        Due.is("come(3, 10, 6174, 1)", y.come(3, 10, 6174, 1), 1);
        Due.is("come(3, 10, MOST, 1)", y.come(3, 10, MOST, 1), NONE);
        y.table(0, 5);
        Due.is("0 comes to 5", y.come(0, 0, 5, 0), 1);
        Due.is("none comes to 3, which is less", y.come(0, 0, 3, 0), 0);
    }

    /** Promise 13. */
    private static void makes() {
        FigurePlay x = new FigurePlay();
        Due.is("makes(0, 10, 200, -1)", x.makes(0, 10, 200, -1), 19);
        Due.is("makes(0, 10, 200, 0)", x.makes(0, 10, 200, 0), 19);
        Due.is("makes(1, 21, 20000, 3)", x.makes(1, 21, 20000, 3), 12000);
        Due.is("makes(1, 21, 11999, 3)", x.makes(1, 21, 11999, 3), NONE);
        Due.is("makes(2, 0, 20000, -1)", x.makes(2, 0, 20000, -1), 1);
        Due.is("makes(3, 0, 99, -1)", x.makes(3, 0, 99, -1), 19);
        Due.is("makes(4, 101, 20000, 1)", x.makes(4, 101, 20000, 1), 100);
        Due.is("makes(5, 24, 400, 3)", x.makes(5, 24, 400, 3), 83);
        Due.is("makes(0, MOST, 20000, -1)", x.makes(0, MOST, 20000, -1), 0);
        Due.is("makes(0, MOST, 20000, 0)", x.makes(0, MOST, 20000, 0), NONE);
        Due.is("makes(0, 1, 20001, -1)", x.makes(0, 1, 20001, -1), BAD);
        Due.is("makes(0, 1, -1, -1)", x.makes(0, 1, -1, -1), BAD);
        Due.is("makes(0, 1, 5, -2)", x.makes(0, 1, 5, -2), BAD);
    }

    /** Promise 14. */
    private static void alike() {
        FigurePlay x = new FigurePlay();
        long[] are = {0, 9, 11, 101, 12321, 123321, 999999999999999L};
        long[] arent = {10, 100, 110, 12, 123, MOST};
        for (long n : are) {
            Due.is("alike(" + n + ")", x.alike(n), 1);
        }
        for (long n : arent) {
            Due.is("alike(" + n + ")", x.alike(n), 0);
        }
        Due.is("base 2, alike(5)", Play.inBase(2).alike(5), 1);
        Due.is("base 2, alike(6)", Play.inBase(2).alike(6), 0);
    }

    /** Promise 15. */
    private static void alikes() {
        FigurePlay x = new FigurePlay();
        long[][] due = {{0, 1}, {9, 10}, {10, 10}, {11, 11}, {99, 19}, {100, 19}, {101, 20}, {12320, 222},
            {12321, 223}, {999999999999999L, 109999999}, {MOST, 109999999}};
        for (long[] row : due) {
            Due.is("alikes(" + row[0] + ")", x.alikes(row[0]), row[1]);
        }
        Due.is("base 2, alikes(MOST)", Play.inBase(2).alikes(MOST), 63356754);
    }

    /** Promise 16. */
    private static void alikeAt() {
        FigurePlay x = new FigurePlay();
        long[][] due = {{0, 0}, {9, 9}, {10, 11}, {18, 99}, {19, 101}, {109999998, 999999999999999L},
            {109999999, NONE}, {Long.MAX_VALUE, NONE}, {-1, BAD}, {Long.MIN_VALUE, BAD}};
        for (long[] row : due) {
            Due.is("alikeAt(" + row[0] + ")", x.alikeAt(row[0]), row[1]);
        }
        FigurePlay two = Play.inBase(2);
        Due.holds("base 2, the last one", two.alikeAt(63356753) <= MOST && two.alikeAt(63356753) > MOST - 100000000);
        Due.is("base 2, one more", two.alikeAt(63356754), NONE);
    }

    /** Promise 17. */
    private static void next() {
        FigurePlay x = new FigurePlay();
        long[][] due = {{0, 0}, {9, 9}, {10, 11}, {12, 22}, {99, 99}, {100, 101}, {191, 191}, {192, 202}, {998, 999},
            {1000, 1001}, {12345, 12421}, {12999, 13031}, {999999999999999L, 999999999999999L}, {MOST, NONE}};
        for (long[] row : due) {
            Due.is("next(" + row[0] + ")", x.next(row[0]), row[1]);
        }
        Due.is("base 2, next(999999999999999)", Play.inBase(2).next(999999999999999L), NONE);
        Due.is("base 16, next(65536)", Play.inBase(16).next(65536), 65537);
    }

    /** Promise 18. */
    private static void made() {
        FigurePlay x = new FigurePlay();
        int[][] due = {{1, 1}, {10, 2}, {11, 1}, {12, 2}, {21, 3}, {201, 3}, {9999, 1}, {10000, 2}, {10001, BAD},
            {0, BAD}, {-1, BAD}, {Integer.MAX_VALUE, BAD}};
        for (int[] row : due) {
            Due.is("made(" + row[0] + ")", x.made(row[0]), row[1]);
        }
        FigurePlay two = Play.inBase(2);
        Due.is("base 2, made(176)", two.made(176), 4);
        Due.is("base 2, made(2)", two.made(2), 2);
        two.base(10);
        Due.is("base 10 again, made(176)", two.made(176), 2);
    }

    /** Promise 19. */
    private static void moved() {
        FigurePlay x = new FigurePlay();
        Due.is("moved(6, 4, 1, -1)", x.moved(6, 4, 1, -1), 6);
        long[] byFour = {102564, 128205, 153846, 179487, 205128, 230769};
        for (int i = 0; i < byFour.length; i++) {
            Due.is("moved(6, 4, 1, " + i + ")", x.moved(6, 4, 1, i), byFour[i]);
        }
        Due.is("moved(6, 4, 1, 6)", x.moved(6, 4, 1, 6), NONE);
        Due.is("moved(6, 8, 2, -1)", x.moved(6, 8, 2, -1), 6);
        Due.is("moved(6, 3, 2, 0)", x.moved(6, 3, 2, 0), 285714);
        Due.is("moved(12, 1, 1, 8)", x.moved(12, 1, 1, 8), 999999999999L);
        Due.is("moved(2, 1, 10, -1), no divisor", x.moved(2, 1, 10, -1), 0);
        Due.is("base 2, moved(2, 1, 15, -1)", Play.inBase(2).moved(2, 1, 15, -1), 0);
        Due.is("base 2, moved(2, 15, 1, -1)", Play.inBase(2).moved(2, 15, 1, -1), 0);
        Due.is("base 2, moved(2, 1, 2, -1)", Play.inBase(2).moved(2, 1, 2, -1), 0);
        Due.is("base 16, moved(12, 1, 1, 14)", Play.inBase(16).moved(12, 1, 1, 14), (1L << 48) - 1);
        int[][] wrong = {{1, 1, 1, -1}, {13, 1, 1, -1}, {2, 0, 1, -1}, {2, 16, 1, -1}, {2, 1, 0, -1}, {2, 1, 16, -1},
            {2, 1, 1, -2}};
        for (int[] a : wrong) {
            Due.is("moved wrong", x.moved(a[0], a[1], a[2], a[3]), BAD);
        }
    }

    /** Promise 20. */
    private static void few() {
        FigurePlay x = new FigurePlay();
        Due.is("few(7, 2, -1)", x.few(7, 2, -1), 6);
        Due.is("few(7, 2, 5)", x.few(7, 2, 5), 1);
        Due.is("few(7, 2, 6)", x.few(7, 2, 6), NONE);
        Due.is("few(10, 3, 0)", x.few(10, 3, 0), 1);
        Due.is("few(10, 3, 1)", x.few(10, 3, 1), 0);
        Due.is("few(10, 2, -1), none", x.few(10, 2, -1), NONE);
        Due.is("few(1, 1, -1), only 0", x.few(1, 1, -1), NONE);
        Due.is("few(1, 1, 0)", x.few(1, 1, 0), NONE);
        Due.is("few(1, 1023, 0)", x.few(1, 1023, 0), 1);
        Due.is("few(9, 2, -1)", x.few(9, 2, -1), 9);
        Due.is("few(1999, 2, -1)", x.few(1999, 2, -1), ones(1999));
        Due.is("few(2000, 1023, -1)", x.few(2000, 1023, -1), 4);
        Due.is("few(2001, 2, -1)", x.few(2001, 2, -1), BAD);
        Due.is("few(0, 2, -1)", x.few(0, 2, -1), BAD);
        Due.is("few(5, 2, -2)", x.few(5, 2, -2), BAD);
        Due.is("few(5, 0, -1)", x.few(5, 0, -1), BAD);
        Due.is("few(5, 1024, -1), beyond the base", x.few(5, 1024, -1), BAD);
        Due.is("few(5, min, -1), beyond the base", x.few(5, Integer.MIN_VALUE, -1), BAD);
        Due.is("few(5, -1, -1), all", x.few(5, -1, -1), 1);
        FigurePlay hex = Play.inBase(16);
        Due.is("base 16, few(17, 32768, -1)", hex.few(17, 32768, -1), 2);
        Due.is("base 16, few(17, 32768, 0)", hex.few(17, 32768, 0), 15);
        hex.base(2);
        Due.is("then base 2, few(17, 3, -1)", hex.few(17, 3, -1), 5);
    }

    private static int ones(int n) {
        int rest = 0;
        for (int k = 1; k <= n; k++) {
            rest = (rest * 10 + 1) % n;
            if (rest == 0) {
                return k;
            }
        }
        return NONE;
    }

    /** Promise 21. */
    private static void withAll() {
        FigurePlay x = new FigurePlay();
        int[] due = {2, 3, 1};
        Due.is("withAll(7, 14, -1)", x.withAll(7, 14, -1), 3);
        for (int j = 0; j < 3; j++) {
            Due.is("withAll(7, 14, " + j + ")", x.withAll(7, 14, j), due[j]);
        }
        Due.is("withAll(7, 14, 3)", x.withAll(7, 14, 3), NONE);
        Due.is("withAll(1, 3, 0)", x.withAll(1, 3, 0), 1);
        Due.is("withAll(1, 3, 1)", x.withAll(1, 3, 1), 0);
        Due.is("withAll(200, 255, -1)", x.withAll(200, 255, -1), 9);
        Due.is("withAll(1, 1, -1), only 0", x.withAll(1, 1, -1), NONE);
        Due.is("withAll(2, 10, -1), only odd", x.withAll(2, 10, -1), NONE);
        Due.is("withAll(201, 2, -1)", x.withAll(201, 2, -1), BAD);
        Due.is("withAll(0, 2, -1)", x.withAll(0, 2, -1), BAD);
        Due.is("withAll(1, 0, -1)", x.withAll(1, 0, -1), BAD);
        Due.is("withAll(1, 1024, -1)", x.withAll(1, 1024, -1), BAD);
        Due.is("withAll(1, 511, -1), nine", x.withAll(1, 511, -1), BAD);
        Due.is("withAll(1, 2, -2)", x.withAll(1, 2, -2), BAD);
        Due.is("base 8, withAll(1, -1, -1), eight of the base", Play.inBase(8).withAll(1, -1, -1), 8);
        Due.is("base 8, withAll(1, -1, 1)", Play.inBase(8).withAll(1, -1, 1), 0);
        Due.is("base 16, withAll(200, 65280, -1)", Play.inBase(16).withAll(200, 65280, -1) >= 8 ? 1 : 0, 1);
    }

    /** Promise 22. */
    private static void summed() {
        FigurePlay x = new FigurePlay();
        Due.is("summed(7, 10, -1)", x.summed(7, 10, -1), 2);
        Due.is("summed(7, 10, 0)", x.summed(7, 10, 0), 2);
        Due.is("summed(7, 10, 1)", x.summed(7, 10, 1), 8);
        Due.is("summed(7, 10, 2)", x.summed(7, 10, 2), NONE);
        Due.is("summed(9, 10, -1), none", x.summed(9, 10, -1), NONE);
        Due.is("summed(9, 10, 0)", x.summed(9, 10, 0), NONE);
        Due.is("summed(100, 1, -1)", x.summed(100, 1, -1), 3);
        Due.is("summed(1, 60, -1)", x.summed(1, 60, -1), 7);
        Due.is("summed(1, 60, 0)", x.summed(1, 60, 0), 6);
        Due.is("summed(300, 60, -1)", x.summed(300, 60, -1), 9);
        Due.is("summed(301, 1, -1)", x.summed(301, 1, -1), BAD);
        Due.is("summed(0, 1, -1)", x.summed(0, 1, -1), BAD);
        Due.is("summed(1, 0, -1)", x.summed(1, 0, -1), BAD);
        Due.is("summed(1, 61, -1)", x.summed(1, 61, -1), BAD);
        Due.is("summed(1, 1, -2)", x.summed(1, 1, -2), BAD);
        Due.is("not by the table", Play.squares().summed(7, 10, 1), 8);
    }

    /** Promise 23. */
    private static void again() {
        FigurePlay x = new FigurePlay();
        int[][] due = {{1, 7, 6}, {12, 7, 3}, {1, 10, NONE}, {10, 10, 1}, {5, 1, 1}, {1, 9, 9}, {100000, 3, 3},
            {1, 19999, 408}, {99999, 20000, NONE}, {0, 1, BAD}, {100001, 1, BAD}, {1, 0, BAD}, {1, 20001, BAD},
            {-1, 5, BAD}, {1, -5, BAD}};
        for (int[] row : due) {
            Due.is("again(" + row[0] + ", " + row[1] + ")", x.again(row[0], row[1]), row[2]);
        }
        Due.is("as many times as n: again(1, 19683)", x.again(1, 19683), 19683);
        Due.is("base 2, again(5, 31)", Play.inBase(2).again(5, 31), 5);
        Due.is("base 2, again(1, 4)", Play.inBase(2).again(1, 4), NONE);
    }

    /** Promise 24. */
    private static void narrow() {
        FigurePlay x = new FigurePlay();
        int[] cubes = {153, 370, 371, 407};
        Due.is("narrow(3, 3, -1)", x.narrow(3, 3, -1), 4);
        for (int i = 0; i < 4; i++) {
            Due.is("narrow(3, 3, " + i + ")", x.narrow(3, 3, i), cubes[i]);
        }
        Due.is("narrow(3, 3, 4)", x.narrow(3, 3, 4), NONE);
        Due.is("narrow(1, 5, 0), 0 too", x.narrow(1, 5, 0), 0);
        Due.is("narrow(1, 5, 1)", x.narrow(1, 5, 1), 1);
        Due.is("narrow(1, 5, 2)", x.narrow(1, 5, 2), NONE);
        Due.is("narrow(1, 1, -1)", x.narrow(1, 1, -1), 10);
        Due.is("narrow(2, 1, -1)", x.narrow(2, 1, -1), 0);
        Due.is("narrow(6, 6, 0)", x.narrow(6, 6, 0), 548834);
        int[][] wrong = {{0, 1, 0}, {7, 1, 0}, {1, 0, 0}, {1, 7, 0}, {1, 1, -2}, {-1, 1, 0}, {1, -1, 0}};
        for (int[] a : wrong) {
            Due.is("narrow wrong", x.narrow(a[0], a[1], a[2]), BAD);
        }
        x.base(16);
        Due.is("then base 16, narrow(3, 3, -1)", x.narrow(3, 3, -1), 19);
        Due.is("base 2, narrow(1, 6, -1)", Play.inBase(2).narrow(1, 6, -1), 2);
    }

    /** Promise 25. */
    private static void bare() {
        FigurePlay x = new FigurePlay();
        int[] due = {1, 3, 5, 7, 9, 20, 31, 42, 53, 64, 75, 86, 97};
        Due.is("bare(100, -1)", x.bare(100, -1), 13);
        for (int i = 0; i < due.length; i++) {
            Due.is("bare(100, " + i + ")", x.bare(100, i), due[i]);
        }
        Due.is("bare(100, 13)", x.bare(100, 13), NONE);
        Due.is("bare(97, -1)", x.bare(97, -1), 13);
        Due.is("bare(96, -1)", x.bare(96, -1), 12);
        Due.is("bare(0, -1)", x.bare(0, -1), 0);
        Due.is("bare(20000, -1)", x.bare(20000, -1), 1961);
        Due.is("bare(20001, -1)", x.bare(20001, -1), BAD);
        Due.is("bare(-1, -1)", x.bare(-1, -1), BAD);
        Due.is("bare(5, -2)", x.bare(5, -2), BAD);
        x.table(0, 1);
        Due.is("0 is bare by another table", x.bare(0, 0), 0);
    }

    /** Promise 26. */
    private static void raised() {
        FigurePlay x = new FigurePlay();
        Due.is("raised(101, -1)", x.raised(101, -1), 2);
        Due.is("raised(101, 0)", x.raised(101, 0), 91);
        Due.is("raised(101, 1)", x.raised(101, 1), 100);
        Due.is("raised(101, 2)", x.raised(101, 2), NONE);
        Due.is("raised(0, -1)", x.raised(0, -1), 1);
        Due.is("raised(0, 0)", x.raised(0, 0), 0);
        Due.is("raised(20, -1)", x.raised(20, -1), 0);
        Due.is("raised(20000, -1)", x.raised(20000, -1), 1);
        Due.is("raised(20001, -1)", x.raised(20001, -1), BAD);
        Due.is("raised(-1, -1)", x.raised(-1, -1), BAD);
        Due.is("raised(5, -2)", x.raised(5, -2), BAD);
        Due.is("n itself, if its figures are worth 0", Play.withTable(10).raised(20000, 0), 20000);
    }

    /** Promise 27. */
    private static void count() {
        FigurePlay x = new FigurePlay();
        Due.is("count(0)", x.count(0), 10);
        Due.is("count(1)", x.count(1), 120);
        Due.is("count(2)", x.count(2), BAD);
        Due.is("count(-1)", x.count(-1), BAD);
        x.base(2);
        for (int d = 0; d < 16; d++) {
            x.table(d, 100000);
        }
        Due.is("count(0) in base 2", x.count(0), 2);
        Due.is("count(1) of all 16, whatever the base", x.count(1), 1600000);
    }

    private static void wrongChangesNothing() {
        FigurePlay x = new FigurePlay();
        x.base(1);
        x.base(17);
        x.table(16, 5);
        x.table(-1, 5);
        x.table(3, 100001);
        x.table(3, -1);
        Due.is("base after wrong calls", x.count(0), 10);
        Due.is("table after wrong calls", x.count(1), 120);
        Due.is("f of 3 after wrong calls", x.table(3, 3), 3);
    }

    /** What one call finds is kept for the next ones, but never beyond a change of base or table. */
    private static void keptIsRenewed() {
        FigurePlay x = new FigurePlay();
        Due.is("rounds at first", x.rounds(0, 1000, -1), 10);
        Due.is("bare at first", x.bare(100, -1), 13);
        Due.is("lost at first", x.lost(4, 20, -1), 20);
        for (int d = 0; d < 10; d++) {
            x.table(d, d * d);
        }
        Due.is("rounds by squares", x.rounds(0, 1000, -1), 3);
        Due.is("come by squares", x.come(0, 1000, 4, 0), 857);
        for (int d = 0; d < 10; d++) {
            x.table(d, d);
        }
        Due.is("rounds as at first", x.rounds(0, 1000, -1), 10);
        Due.is("bare as at first", x.bare(100, -1), 13);
        x.table(1, 0);
        Due.is("1, 10 and 11 stand still now", x.lost(4, 20, -1) < 20 ? 1 : 0, 1);
        x.table(1, 1);
        x.base(2);
        Due.is("rounds in base 2", x.rounds(3, 255, -1), 10);
        x.base(10);
        Due.is("rounds in base 10", x.rounds(3, 999, -1), 2);
    }

    /** Calls that differ in one thing alone must not take one another's answers. */
    private static void keptByArguments() {
        FigurePlay x = new FigurePlay();
        Due.is("few(7, 14, -1)", x.few(7, 14, -1), 2);
        Due.is("withAll(7, 14, -1)", x.withAll(7, 14, -1), 3);
        Due.is("summed(7, 14, -1)", x.summed(7, 14, -1), 2);
        Due.is("summed(7, 14, 0)", x.summed(7, 14, 0), 7);
        Due.is("summed(7, 15, 0)", x.summed(7, 15, 0), 1);
        Due.is("summed(8, 15, 0)", x.summed(8, 15, 0), 9);
        x.base(12);
        Due.is("base 12, summed(8, 15, 0)", x.summed(8, 15, 0), 11);
        Due.is("base 12, summed(8, 15, 1)", x.summed(8, 15, 1), 4);
        Due.is("base 12, narrow(3, 3, -1)", x.narrow(3, 3, -1), 3);
        x.base(10);
        Due.is("base 10, narrow(3, 3, 0)", x.narrow(3, 3, 0), 153);
        x.base(16);
        Due.is("base 16, narrow(3, 3, 0)", x.narrow(3, 3, 0), 342);
        Due.is("base 16, narrow(3, 2, -1)", x.narrow(3, 2, -1), 0);
        Due.is("base 16, narrow(2, 2, -1)", x.narrow(2, 2, -1), 0);
    }
}
