/** Promises 19 to 23, sentence by sentence, where a sentence names an edge. */
final class EdgesOfMultiples {
    private static final int BAD = Edges.BAD, NONE = Edges.NONE;
    private static final int ALL_OF_TEN = 1023, EIGHT = 255, NINE = 511;

    private EdgesOfMultiples() {
    }

    static void all() {
        moved();
        movedFigures();
        few();
        fewOfSet();
        withAll();
        withAllOfSet();
        summed();
        summedFigures();
        again();
    }

    private static void moved() {
        Due.sentence(19, "numbers of w figures (2 to 12)");
        Edges.ends("moved, w", (x, w) -> x.moved((int) w, 1, 1, -1), 2, 9, 12, 9);
        Due.is("the last of 2 figures", new FigurePlay().moved(2, 1, 1, 8), 99);
        Due.is("the last of 12 figures", new FigurePlay().moved(12, 1, 1, 8), 999999999999L);
        Due.is("the last of 12 figures in base 16", Play.inBase(16).moved(12, 1, 1, 14), (1L << 48) - 1);

        Due.sentence(19, "makes p by q times the number (p, q 1 to 15)");
        Edges.ends("moved, p", (x, p) -> x.moved(6, (int) p, 1, -1), 1, 9, 15, 0);
        Edges.ends("moved, q", (x, q) -> x.moved(6, 1, (int) q, -1), 1, 9, 15, 0);
        Edges.places("15 by 13 in base 2", Play.inBase(2), (x, i) -> x.moved(8, 15, 13, (int) i), 195);
        Edges.places("10 by 15 in base 4: 21 and 12", Play.inBase(4), (x, i) -> x.moved(2, 10, 15, (int) i), 9);
        Edges.places("15 by 15", Play.inBase(4), (x, i) -> x.moved(2, 15, 15, (int) i), 5, 10, 15);
        Edges.places("8 by 2 are 4", new FigurePlay(), (x, i) -> x.moved(6, 8, 2, (int) i),
            102564, 128205, 153846, 179487, 205128, 230769);
    }

    private static void movedFigures() {
        Due.sentence(19, "the first above 0, the last above 0");
        Edges.places("not 025641, which makes 102564", new FigurePlay(), (x, i) -> x.moved(6, 4, 1, (int) i),
            102564, 128205, 153846, 179487, 205128, 230769);
        Edges.places("not 01, which makes 10", new FigurePlay(), (x, i) -> x.moved(2, 10, 1, (int) i));
        Edges.places("not 10, which makes 01", new FigurePlay(), (x, i) -> x.moved(2, 1, 10, (int) i));
        Edges.places("not 10 in base 2", Play.inBase(2), (x, i) -> x.moved(2, 1, 2, (int) i));

        Due.sentence(19, "how many (i = -1), the i-th, rising. NONE; BAD.");
        Edges.places("once as great", new FigurePlay(), (x, i) -> x.moved(2, 1, 1, (int) i),
            11, 22, 33, 44, 55, 66, 77, 88, 99);
        Edges.places("twice as great, none of 6 figures", new FigurePlay(), (x, i) -> x.moved(6, 2, 1, (int) i));
        Edges.places("five times as great, one of 6", new FigurePlay(), (x, i) -> x.moved(6, 5, 1, (int) i), 142857);
        Edges.places("the one figure of base 2", Play.inBase(2), (x, i) -> x.moved(2, 1, 1, (int) i), 3);

        Due.sentence(19, "Of several the first");
        Edges.refused("a wrong w, and no such place", x -> x.moved(1, 1, 1, 99));
        Edges.refused("a wrong p, and no such place", x -> x.moved(6, 16, 1, 99));
        Edges.refused("a wrong q, and no such place", x -> x.moved(6, 1, 0, 99));
    }

    private static void few() {
        Due.sentence(20, "the least multiple above 0 of n (1 to 2000)");
        Edges.ends("few, n", (x, n) -> x.few((int) n, ALL_OF_TEN, -1), 1, 1, 2000, 4);
        Edges.places("2000 itself", new FigurePlay(), (x, j) -> x.few(2000, ALL_OF_TEN, (int) j), 2, 0, 0, 0);
        Edges.places("0 is not above 0", new FigurePlay(), (x, j) -> x.few(1, ALL_OF_TEN, (int) j), 1);
        Due.is("nothing but 0", new FigurePlay().few(1, 1, -1), NONE);
        Due.is("nothing but 0, its first figure", new FigurePlay().few(1, 1, 0), NONE);

        Due.sentence(20, "how many figures (j = -1), the j-th");
        Edges.places("of 7, with 1s alone", new FigurePlay(), (x, j) -> x.few(7, 2, (int) j), 1, 1, 1, 1, 1, 1);
        Edges.places("of 10, with 0 and 1", new FigurePlay(), (x, j) -> x.few(10, 3, (int) j), 1, 0);
        Edges.places("of 9, with 0 and 1", new FigurePlay(), (x, j) -> x.few(9, 3, (int) j), 1, 1, 1, 1, 1, 1, 1, 1, 1);
        FigurePlay many = Play.inBase(15);
        Due.is("the most figures", many.few(1999, 1 << 14, -1), 1998);
        Due.is("the first of them", many.few(1999, 1 << 14, 0), 14);
        Due.is("the last of them", many.few(1999, 1 << 14, 1997), 14);

        Due.sentence(20, "NONE: none, not so many");
        Due.is("not so many", many.few(1999, 1 << 14, 1998), NONE);
        Due.is("none of 10 with 1s alone", new FigurePlay().few(10, 2, -1), NONE);
        Due.is("none, its first figure", new FigurePlay().few(10, 2, 0), NONE);
        Due.is("none, far", new FigurePlay().few(10, 2, Edges.FAR), NONE);

        Due.sentence(20, "Of several the first; nothing changes then.");
        Edges.refused("a wrong n, and none", x -> x.few(2001, 1, -1));
        Edges.refused("a wrong place, and none", x -> x.few(10, 2, -2));
        Edges.keeps("few", new FigurePlay(), x -> x.few(7, 2, 5), 1, x -> x.few(2001, 2, 5), x -> x.few(0, 2, 5),
            x -> x.few(7, 0, 5), x -> x.few(7, 1024, 5), x -> x.few(7, 2, -2));
    }

    private static void fewOfSet() {
        Due.sentence(20, "BAD (a set of none of the BASE's figures, too)");
        Edges.refused("an empty set", x -> x.few(5, 0, -1));
        for (int b = 2; b <= 16; b++) {
            int beyond = 1 << b;
            Due.is("the last figure of base " + b, Play.inBase(b).few(1, beyond / 2, 0), b - 1);
            Due.is("the first beyond base " + b, Play.inBase(b).few(1, beyond, 0), BAD);
            Due.is("all beyond base " + b, Play.inBase(b).few(1, -beyond, 0), BAD);
        }
        Due.is("the last bit", Play.inBase(16).few(1, Integer.MIN_VALUE, -1), BAD);

        Due.sentence(20, "(Bits of figures beyond the BASE are not looked at.)");
        for (int b = 2; b <= 16; b++) {
            int beyond = -(1 << b);
            Due.is("they are left out in base " + b, Play.inBase(b).few(1, beyond | 2, -1), 1);
            Due.is("1 stays in base " + b, Play.inBase(b).few(1, beyond | 2, 0), 1);
            Due.is("0 stays in base " + b, Play.inBase(b).few(1, beyond | 1, -1), NONE);
        }
        Due.is("all bits", new FigurePlay().few(5, -1, 0), 5);
    }

    private static void withAll() {
        Due.sentence(21, "the least multiple above 0 of n (1 to 200)");
        Edges.ends("withAll, n", (x, n) -> x.withAll((int) n, EIGHT, -1), 1, 8, 200, 9);
        Edges.places("of 200, with 0 to 7", new FigurePlay(), (x, j) -> x.withAll(200, EIGHT, (int) j),
            1, 2, 3, 4, 5, 7, 6, 0, 0);
        Edges.places("of 1, with 0 to 7", new FigurePlay(), (x, j) -> x.withAll(1, EIGHT, (int) j),
            1, 0, 2, 3, 4, 5, 6, 7);
        Due.is("nothing but 0", new FigurePlay().withAll(1, 1, -1), NONE);

        Due.sentence(21, "whose figures are of a set of 8 figures at most, each of them there");
        Edges.places("one figure", new FigurePlay(), (x, j) -> x.withAll(1, 2, (int) j), 1);
        Edges.places("0 and 1, no 0 ahead", new FigurePlay(), (x, j) -> x.withAll(1, 3, (int) j), 1, 0);
        Edges.places("of 11, not 11 nor 22", new FigurePlay(), (x, j) -> x.withAll(11, 6, (int) j), 1, 2, 1);
        Edges.places("the last 8 of base 16", Play.inBase(16), (x, j) -> x.withAll(200, 0xFF00, (int) j),
            8, 9, 10, 11, 12, 14, 15, 13, 8);

        Due.sentence(21, "how many figures (j = -1), the j-th. NONE; BAD");
        Edges.places("of 7, with 1, 2 and 3", new FigurePlay(), (x, j) -> x.withAll(7, 14, (int) j), 2, 3, 1);
        Due.is("none of 2 with 1 and 3", new FigurePlay().withAll(2, 10, -1), NONE);
        Due.is("none of 200 with the 8 odd figures", Play.inBase(16).withAll(200, 0xAAAA, -1), NONE);
        Due.is("none, its first figure", new FigurePlay().withAll(2, 10, 0), NONE);

        Due.sentence(21, "Of several the first; nothing changes then.");
        Edges.refused("a wrong n, and none", x -> x.withAll(201, 1, -1));
        Edges.keeps("withAll", new FigurePlay(), x -> x.withAll(7, 14, 2), 1, x -> x.withAll(201, 14, 2),
            x -> x.withAll(0, 14, 2), x -> x.withAll(7, NINE, 2), x -> x.withAll(7, 0, 2), x -> x.withAll(7, 14, -2));
    }

    private static void withAllOfSet() {
        Due.sentence(21, "BAD (a set of none, or of more than 8 of the BASE's figures, too)");
        Edges.refused("an empty set", x -> x.withAll(1, 0, -1));
        Edges.refused("nine figures", x -> x.withAll(1, NINE, -1));
        Edges.refused("all figures", x -> x.withAll(1, -1, -1));
        Due.is("figures beyond the BASE alone", new FigurePlay().withAll(1, 1024, -1), BAD);
        Due.is("the last bit alone", Play.inBase(16).withAll(1, Integer.MIN_VALUE, -1), BAD);
        Due.is("nine figures of base 9", Play.inBase(9).withAll(1, NINE, -1), BAD);
        Due.is("eight of the same in base 8", Play.inBase(8).withAll(1, NINE, -1), 8);
        Due.is("all bits in base 8", Play.inBase(8).withAll(1, -1, -1), 8);
        Due.is("all bits in base 9", Play.inBase(9).withAll(1, -1, -1), BAD);
        Due.is("eight without 0 in base 9", Play.inBase(9).withAll(1, NINE - 1, -1), 8);
        Due.is("all bits in base 2", Play.inBase(2).withAll(1, -1, -1), 2);
    }

    private static void summed() {
        Due.sentence(22, "the least multiple above 0 of n (1 to 300)");
        Edges.ends("summed, n", (x, n) -> x.summed((int) n, 3, -1), 1, 1, 300, 3);
        Edges.places("of 300 with 3", new FigurePlay(), (x, j) -> x.summed(300, 3, (int) j), 3, 0, 0);
        Edges.places("of 300 with 60", new FigurePlay(), (x, j) -> x.summed(300, 60, (int) j), 6, 9, 9, 9, 9, 9, 9, 0, 0);

        Due.sentence(22, "are s together (1 to 60)");
        Edges.ends("summed, s", (x, s) -> x.summed(1, (int) s, -1), 1, 1, 60, 7);
        Edges.places("1 of 1", new FigurePlay(), (x, j) -> x.summed(1, 1, (int) j), 1);
        Edges.places("60 of 1", new FigurePlay(), (x, j) -> x.summed(1, 60, (int) j), 6, 9, 9, 9, 9, 9, 9);
        Edges.places("60 of 1 in base 16", Play.inBase(16), (x, j) -> x.summed(1, 60, (int) j), 15, 15, 15, 15);
        FigurePlay two = Play.inBase(2);
        Due.is("60 of 1 in base 2", two.summed(1, 60, -1), 60);
        Due.is("the last of 60 ones", two.summed(1, 60, 59), 1);
        Edges.noneBehind("60 ones", two, (x, j) -> x.summed(1, 60, (int) j), 60);
        Due.is("60 of 300 in base 2", two.summed(300, 60, -1), 62);
    }

    private static void summedFigures() {
        Due.sentence(22, "whose figures (not f)");
        Edges.places("every f is the same", Play.withSame(10, 100000), (x, j) -> x.summed(7, 10, (int) j), 2, 8);

        Due.sentence(22, "how many figures (j = -1), the j-th. NONE; BAD.");
        Edges.places("10 of 7", new FigurePlay(), (x, j) -> x.summed(7, 10, (int) j), 2, 8);
        Due.is("none: 10 of 9", new FigurePlay().summed(9, 10, -1), NONE);
        Due.is("none, its first figure", new FigurePlay().summed(9, 10, 0), NONE);
        Due.is("none: 1 of 299 in base 2", Play.inBase(2).summed(299, 1, -1), NONE);
        Due.is("1 of 256 in base 2", Play.inBase(2).summed(256, 1, -1), 9);

        Due.sentence(22, "Of several the first; nothing changes then.");
        Edges.refused("a wrong n, and none", x -> x.summed(301, 1, 99));
        Edges.refused("a wrong s, and none", x -> x.summed(300, 61, 99));
        Edges.keeps("summed", new FigurePlay(), x -> x.summed(7, 10, 1), 8, x -> x.summed(301, 10, 1),
            x -> x.summed(0, 10, 1), x -> x.summed(7, 0, 1), x -> x.summed(7, 61, 1), x -> x.summed(7, 10, -2));
    }

    private static void again() {
        Due.sentence(23, "a number b (1 to 100000)");
        Edges.ends("again, b", (x, b) -> x.again((int) b, 7), 1, 6, 100000, 7);

        Due.sentence(23, "to be a multiple of n (1 to 20000)");
        Edges.ends("again, n", (x, n) -> x.again(100000, (int) n), 1, 1, 20000, 1);
        Due.is("1 and 20000 in base 3", Play.inBase(3).again(1, 20000), 2000);
        Due.is("100000 and 19999", new FigurePlay().again(100000, 19999), 476);

        Due.sentence(23, "how many times (1 to n)");
        Due.is("once", new FigurePlay().again(10, 10), 1);
        Due.is("once of 1", new FigurePlay().again(5, 1), 1);
        Due.is("n times of 9", new FigurePlay().again(1, 9), 9);
        Due.is("n times of 19683", new FigurePlay().again(1, 19683), 19683);
        Due.is("n times of 16384 in base 9", Play.inBase(9).again(1, 16384), 16384);

        Due.sentence(23, "must be written one behind the other at least (in the BASE)");
        Due.is("5 is 101 in base 2", Play.inBase(2).again(5, 31), 5);
        Due.is("15 is F in base 16", Play.inBase(16).again(15, 17), 2);
        Due.is("16 is 10 in base 16", Play.inBase(16).again(16, 257), 2);
        Due.is("9 in base 10", new FigurePlay().again(9, 11), 2);

        Due.sentence(23, "AGAIN. NONE; BAD.");
        Due.is("1 and 10", new FigurePlay().again(1, 10), NONE);
        Due.is("99999 and 20000", new FigurePlay().again(99999, 20000), NONE);
        Due.is("1 and 2 in base 2", Play.inBase(2).again(1, 2), NONE);

        Due.sentence(23, "Of several the first");
        Edges.refused("a wrong n, and none", x -> x.again(99999, 20001));
        Edges.refused("a wrong b, and none", x -> x.again(-1, 20000));
        Edges.refused("both wrong", x -> x.again(0, 0));
    }
}
