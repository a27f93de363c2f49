/** Promises 24 to 27, sentence by sentence, where a sentence names an edge. */
final class EdgesOfRaised {
    private static final int NONE = Edges.NONE;

    private EdgesOfRaised() {
    }

    static void all() {
        narrow();
        narrowPowers();
        bare();
        bareOrNot();
        raised();
        raisedOf();
        count();
    }

    private static void narrow() {
        Due.sentence(24, "numbers of w figures (1 to 6)");
        Edges.ends("narrow, w", (x, w) -> x.narrow((int) w, 1, -1), 1, 10, 6, 0);
        Edges.places("of 6 figures", new FigurePlay(), (x, i) -> x.narrow(6, 6, (int) i), 548834);
        Edges.places("of 6 figures, 5th power", new FigurePlay(), (x, i) -> x.narrow(6, 5, (int) i), 194979);

        Due.sentence(24, "how many (i = -1), the i-th, rising. NONE; BAD.");
        Edges.places("cubes", new FigurePlay(), (x, i) -> x.narrow(3, 3, (int) i), 153, 370, 371, 407);
        Edges.places("none of 2 figures", new FigurePlay(), (x, i) -> x.narrow(2, 2, (int) i));
        Edges.places("1st power", new FigurePlay(), (x, i) -> x.narrow(1, 1, (int) i), 0, 1, 2, 3, 4, 5, 6, 7, 8, 9);

        Due.sentence(24, "Of several the first; nothing changes then.");
        Edges.refused("a wrong w, and none", x -> x.narrow(7, 1, 99));
        Edges.refused("a wrong e, and none", x -> x.narrow(3, 7, 99));
        Edges.keeps("narrow", new FigurePlay(), x -> x.narrow(3, 3, 3), 407, x -> x.narrow(0, 3, 3),
            x -> x.narrow(7, 3, 3), x -> x.narrow(3, 0, 3), x -> x.narrow(3, 7, 3), x -> x.narrow(3, 3, -2));
    }

    private static void narrowPowers() {
        Due.sentence(24, "each to the e-th power (e 1 to 6; 0 by w 1, too)");
        Edges.ends("narrow, e", (x, e) -> x.narrow(1, (int) e, -1), 1, 10, 6, 2);
        for (int e = 2; e <= 6; e++) {
            int power = e;
            Edges.places("0 and 1", new FigurePlay(), (x, i) -> x.narrow(1, power, (int) i), 0, 1);
            Edges.places("0 and 1 in base 2", Play.inBase(2), (x, i) -> x.narrow(1, power, (int) i), 0, 1);
        }
        for (int w = 2; w <= 6; w++) {
            Due.holds("0 is not of " + w + " figures", new FigurePlay().narrow(w, 6, 0) != 0);
        }
        for (int b = 2; b <= 16; b++) {
            Due.is("all figures of base " + b, Play.inBase(b).narrow(1, 1, -1), b);
            Due.is("the last figure of base " + b, Play.inBase(b).narrow(1, 1, b - 1), b - 1);
        }
        Edges.places("the 6th power of 15 is too much", Play.inBase(16), (x, i) -> x.narrow(1, 6, (int) i), 0, 1);
        Due.is("6 figures in base 16", Play.inBase(16).narrow(6, 6, -1), 2);
    }

    private static void bare() {
        Due.sentence(25, "numbers to M (0 to 20000)");
        Edges.ends("bare, M", (x, m) -> x.bare((int) m, -1), 0, 0, 20000, 1961);
        Due.is("to 97, which is bare", new FigurePlay().bare(97, -1), 13);
        Due.is("to 96", new FigurePlay().bare(96, -1), 12);
        Due.is("97 is the last to 97", new FigurePlay().bare(97, 12), 97);
        Due.is("97 is not there to 96", new FigurePlay().bare(96, 12), NONE);
        Due.is("the last to 20000", new FigurePlay().bare(20000, 1960), 19994);
        Edges.noneBehind("to 20000", new FigurePlay(), (x, i) -> x.bare(20000, (int) i), 1961);

        Due.sentence(25, "how many (i = -1), the i-th. NONE; BAD.");
        Edges.places("to 100", new FigurePlay(), (x, i) -> x.bare(100, (int) i),
            1, 3, 5, 7, 9, 20, 31, 42, 53, 64, 75, 86, 97);

        Due.sentence(25, "Of several the first; nothing changes then.");
        Edges.refused("a wrong M, and none", x -> x.bare(-1, 0));
        Edges.keeps("bare", new FigurePlay(), x -> x.bare(100, 12), 97, x -> x.bare(20001, 12), x -> x.bare(-1, 12),
            x -> x.bare(100, -2));
    }

    private static void bareOrNot() {
        Due.sentence(25, "that are RAISED of none");
        FigurePlay all = Play.withSame(10, 100000);
        Due.is("all are bare", all.bare(20000, -1), 20001);
        Due.is("0 too", all.bare(20000, 0), 0);
        Due.is("20000 too", all.bare(20000, 20000), 20000);
        Due.is("20000 is not of the numbers to 19999", all.bare(19999, 20000), NONE);
        Edges.noneBehind("all are bare", all, (x, i) -> x.bare(20000, (int) i), 20001);
        Edges.places("0 alone", all, (x, i) -> x.bare(0, (int) i), 0);
        Edges.places("none is bare", Play.withSame(10, 0), (x, i) -> x.bare(20000, (int) i));
    }

    private static void raised() {
        Due.sentence(26, "all numbers of which RAISED is n (n to 20000)");
        Edges.ends("raised, n", (x, n) -> x.raised((int) n, -1), 0, 1, 20000, 1);
        Edges.places("of 0", new FigurePlay(), (x, i) -> x.raised(0, (int) i), 0);
        Edges.places("of 20000", new FigurePlay(), (x, i) -> x.raised(20000, (int) i), 19972);

        Due.sentence(26, "how many (i = -1), the i-th. NONE; BAD.");
        Edges.places("of 101", new FigurePlay(), (x, i) -> x.raised(101, (int) i), 91, 100);
        Edges.places("of 20, which is bare", new FigurePlay(), (x, i) -> x.raised(20, (int) i));

        Due.sentence(26, "Of several the first; nothing changes then.");
        Edges.refused("a wrong n, and none", x -> x.raised(20001, 99));
        Edges.keeps("raised", new FigurePlay(), x -> x.raised(101, 1), 100, x -> x.raised(20001, 1),
            x -> x.raised(-1, 1), x -> x.raised(101, -2));
    }

    private static void raisedOf() {
        Due.sentence(26, "RAISED of: all numbers");
        Edges.places("20000 itself, if it stays", Play.withSame(10, 0), (x, i) -> x.raised(20000, (int) i), 20000);
        FigurePlay to9 = Play.withTable(10, 9, 8, 7, 6, 5, 4, 3, 2, 1, 0);
        Edges.places("all figures come to 9", to9, (x, i) -> x.raised(9, (int) i), 0, 1, 2, 3, 4, 5, 6, 7, 8, 9);
        FigurePlay far = Play.withSame(10, 100000);
        Edges.places("none comes to 0", far, (x, i) -> x.raised(0, (int) i));
        Edges.places("none comes to 20000", far, (x, i) -> x.raised(20000, (int) i));
    }

    private static void count() {
        Due.sentence(27, "0 the BASE, 1 f of all figures 0 to 15 together. BAD.");
        Edges.ends("count", (x, what) -> x.count((int) what), 0, 10, 1, 120);
        Due.is("the least base", Play.withSame(2, 100000).count(0), 2);
        Due.is("the greatest base", Play.withSame(16, 0).count(0), 16);
        Due.is("all f at their most, the BASE's figures or not", Play.withSame(2, 100000).count(1), 1600000);
        Due.is("all f at 0", Play.withSame(16, 0).count(1), 0);
        Due.is("f of the first figure", Play.withOne(10, 0, 7).count(1), 7);
        Due.is("f of the last figure", Play.withOne(10, 15, 7).count(1), 7);
    }
}
