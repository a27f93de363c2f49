/** Promises 9 to 13, sentence by sentence, where a sentence names an edge. */
final class EdgesToM {
    private static final long MOST = Edges.MOST;
    private static final int NONE = Edges.NONE;
    private static final int SUM = 0, TURNED = 1, ADDED = 2, SORTED = 3, RAISED = 4, PRODUCT = 5;
    private static final String TO_3000 = "Of numbers 0 to M (M to 3000) and a STEP";

    /** By step, to 3000: how many are LOST, who is tallest, its TAIL. */
    private static final int[][] BASE_2 = {{0, 127, 4}, {0, 2, 1}, {3000, 0, 0}, {0, 2, 2}, {3000, 0, 0}, {0, 2, 1}};
    private static final int[][] BASE_16 = {{0, 511, 3}, {0, 16, 1}, {3000, 0, 0}, {0, 258, 8}, {3000, 0, 0},
        {0, 683, 6}};

    private EdgesToM() {
    }

    static void all() {
        bases();
        first();
        firstOfTail();
        tallest();
        tallestOfSeveral();
        lost();
        lostToM();
        come();
        comeToLeast();
        comeByChains();
        makes();
        makesToM();
    }

    private static void bases() {
        Due.sentence(9, "BASE is 2 to 16");
        for (int step = 0; step < 6; step++) {
            Due.is("base 2, step " + step, Play.inBase(2).first(step, BASE_2[step][2], 3000), BASE_2[step][1]);
            Due.is("base 16, step " + step, Play.inBase(16).first(step, BASE_16[step][2], 3000), BASE_16[step][1]);
        }

        Due.sentence(10, "BASE is 2 to 16");
        for (int step = 0; step < 6; step++) {
            tall("base 2, step " + step, Play.inBase(2), step, 3000, BASE_2[step][1], BASE_2[step][2]);
            tall("base 16, step " + step, Play.inBase(16), step, 3000, BASE_16[step][1], BASE_16[step][2]);
        }

        Due.sentence(11, "BASE is 2 to 16");
        for (int step = 0; step < 6; step++) {
            Due.is("base 2, step " + step, Play.inBase(2).lost(step, 3000, -1), BASE_2[step][0]);
            Due.is("base 16, step " + step, Play.inBase(16).lost(step, 3000, -1), BASE_16[step][0]);
        }
    }

    private static void first() {
        Due.sentence(9, "STEPS: 0 SUM");
        Edges.ends("first, by step", (x, step) -> x.first((int) step, 0, 9), 0, 0, 5, 0);

        Due.sentence(9, TO_3000);
        Edges.ends("first, M", (x, m) -> x.first(SUM, 0, (int) m), 0, 0, 3000, 0);
        Due.is("199 is of the numbers to 199", new FigurePlay().first(SUM, 3, 199), 199);
        Due.is("199 is not of the numbers to 198", new FigurePlay().first(SUM, 3, 198), NONE);
        FigurePlay last = Play.withOne(10, 3, 7000);
        Due.is("only 3000 becomes 10000 and stands still", last.first(RAISED, 1, 3000), 3000);
        Due.is("it is not of the numbers to 2999", last.first(RAISED, 1, 2999), NONE);
        Due.is("0 alone", new FigurePlay().first(SUM, 1, 0), NONE);

        Due.sentence(9, "Of several the first; nothing changes then.");
        Edges.refused("a wrong tail, and none has it", x -> x.first(SUM, 301, 0));
        Edges.keeps("first", new FigurePlay(), x -> x.first(SUM, 3, 300), 199, x -> x.first(SUM, 301, 300),
            x -> x.first(SUM, 3, 3001), x -> x.first(SUM, -1, 300), x -> x.first(SUM, 3, -1), x -> x.first(6, 3, 300));
    }

    private static void firstOfTail() {
        Due.sentence(9, "FIRST with a TAIL of k (0 to 300)");
        Edges.ends("first, k", (x, k) -> x.first(SUM, (int) k, 300), 0, 0, 300, NONE);
        FigurePlay ones = Play.withOne(10, 1, 1);
        Due.is("a TAIL of 298", ones.first(RAISED, 298, 3000), 1656);
        Due.is("a TAIL of 299", ones.first(RAISED, 299, 3000), 1655);
        Due.is("a TAIL of 300 is of one that is LOST", ones.first(RAISED, 300, 3000), NONE);

        Due.sentence(9, "FIRST (k 0 to 300). NONE; BAD.");
        Due.is("a TAIL of 3", new FigurePlay().first(SUM, 3, 3000), 199);
        Due.is("a TAIL of 4", new FigurePlay().first(SUM, 4, 3000), NONE);

        Due.sentence(9, "the least number whose CHAIN comes round, with that TAIL");
        Due.is("10 is the least of 10 to 18", new FigurePlay().first(SUM, 1, 100), 10);
        Due.is("196 by ADDED has a TAIL of 30", new FigurePlay().chain(ADDED, 196, 0), 30);
        Due.is("it does not come round", new FigurePlay().first(ADDED, 30, 200), NONE);
        FigurePlay told = Play.withTable(16, Tables.TOLD_300);
        Due.is("0 with 300 told", told.first(SUM, 191, 0), 0);
        Due.is("1 with 301 told", told.first(SUM, 192, 1), NONE);
    }

    private static void tall(String name, FigurePlay x, int step, int m, int number, int tail) {
        Due.is(name + ", the number", x.tallest(step, m, 0), number);
        Due.is(name + ", its TAIL", x.tallest(step, m, 1), tail);
    }

    private static void tallest() {
        Due.sentence(10, "STEPS: 0 SUM");
        Edges.ends("tallest, by step", (x, step) -> x.tallest((int) step, 77, 1), 0, 2, 5, 4);

        Due.sentence(10, TO_3000);
        Edges.ends("tallest, M", (x, m) -> x.tallest(SUM, (int) m, 0), 0, 0, 3000, 199);
        FigurePlay last = Play.withOne(10, 3, 7000);
        tall("3000 alone has a TAIL", last, RAISED, 3000, 3000, 1);
        tall("it is not of the numbers to 2999", last, RAISED, 2999, 0, 0);

        Due.sentence(10, "the number (what = 0), its TAIL (1)");
        Edges.ends("tallest, what", (x, what) -> x.tallest(SUM, 300, (int) what), 0, 199, 1, 3);

        Due.sentence(10, "NONE: none comes round; BAD.");
        tall("all rise", Play.withSame(10, 1), RAISED, 3000, NONE, NONE);
        tall("0 rises", Play.withSame(10, 1), RAISED, 0, NONE, NONE);
        tall("0 has 301 told", Play.withTable(16, Tables.TOLD_301), SUM, 0, NONE, NONE);

        Due.sentence(10, "Of several the first; nothing changes then.");
        Edges.refused("a wrong M, and none comes round", x -> x.tallest(ADDED, -1, 0));
        Edges.keeps("tallest", new FigurePlay(), x -> x.tallest(SUM, 300, 0), 199, x -> x.tallest(SUM, 3001, 0),
            x -> x.tallest(SUM, -1, 0), x -> x.tallest(SUM, 300, 2), x -> x.tallest(-1, 300, 0));
    }

    private static void tallestOfSeveral() {
        Due.sentence(10, "the number whose CHAIN comes round with the greatest TAIL, the least of several");
        tall("0 to 9 stand still", new FigurePlay(), SUM, 9, 0, 0);
        tall("10 to 18 alike", new FigurePlay(), SUM, 18, 10, 1);
        tall("19 is the first with 2", new FigurePlay(), SUM, 19, 19, 2);
        tall("28 has no more than 19", new FigurePlay(), SUM, 198, 19, 2);
        tall("who is LOST is not tall", new FigurePlay(), ADDED, 3000, 0, 0);
        tall("1000 to 1654 are LOST", Play.withOne(10, 1, 1), RAISED, 3000, 1655, 299);
        tall("1 has 301 told", Play.withTable(16, Tables.TOLD_300), SUM, 1, 0, 191);
    }

    private static void lost() {
        Due.sentence(11, "STEPS: 0 SUM");
        Edges.ends("lost, by step", (x, step) -> x.lost((int) step, 77, -1), 0, 0, 5, 0);

        Due.sentence(11, "LOST ones: how many (i = -1), the i-th. NONE; BAD.");
        Edges.places("by RAISED", new FigurePlay(), (x, i) -> x.lost(RAISED, 5, (int) i), 1, 2, 3, 4, 5);
        Edges.places("none by SUM", new FigurePlay(), (x, i) -> x.lost(SUM, 3000, (int) i));
        Edges.places("by a number above 10 to the 15", Play.withTable(10, 1, 1, 100000),
            (x, i) -> x.lost(PRODUCT, 3000, (int) i), 2222);
        FigurePlay all = Play.withSame(10, 1);
        Due.is("all", all.lost(RAISED, 3000, -1), 3001);
        Due.is("the last of all", all.lost(RAISED, 3000, 3000), 3000);
        Edges.noneBehind("all", all, (x, i) -> x.lost(RAISED, 3000, (int) i), 3001);
        FigurePlay ones = Play.withOne(10, 1, 1);
        Due.is("by 301 told", ones.lost(RAISED, 3000, -1), 655);
        Due.is("by 301 told, the first", ones.lost(RAISED, 3000, 0), 1000);
        Due.is("by 301 told, the last", ones.lost(RAISED, 3000, 654), 1654);
        Edges.noneBehind("by 301 told", ones, (x, i) -> x.lost(RAISED, 3000, (int) i), 655);
        Edges.places("0 has 300 told", Play.withTable(16, Tables.TOLD_300), (x, i) -> x.lost(SUM, 1, (int) i), 1);
        Edges.places("0 has 301 told", Play.withTable(16, Tables.TOLD_301), (x, i) -> x.lost(SUM, 1, (int) i), 0, 1);

        Due.sentence(11, "Of several the first; nothing changes then.");
        Edges.refused("a wrong M, and no such place", x -> x.lost(ADDED, 3001, Edges.FAR));
        Edges.keeps("lost", new FigurePlay(), x -> x.lost(RAISED, 50, 49), 50, x -> x.lost(RAISED, 3001, 49),
            x -> x.lost(RAISED, -1, 49), x -> x.lost(RAISED, 50, -2), x -> x.lost(6, 50, 49));
    }

    private static void lostToM() {
        Due.sentence(11, TO_3000);
        Edges.ends("lost, M", (x, m) -> x.lost(ADDED, (int) m, -1), 0, 0, 3000, 3000);
        FigurePlay last = Play.withOne(10, 3, 100000);
        Due.is("to 3000", last.lost(RAISED, 3000, -1), 814);
        Due.is("3000 is the last", last.lost(RAISED, 3000, 813), 3000);
        Due.is("to 2999", last.lost(RAISED, 2999, -1), 813);
        Due.is("3000 is not there", last.lost(RAISED, 2999, 813), NONE);
        FigurePlay growing = Play.withOne(10, 3, 100000);
        int[][] due = {{0, 0}, {2, 0}, {3, 1}, {29, 3}, {30, 4}, {299, 57}, {300, 58}, {2999, 813}, {3000, 814}, {3, 1}};
        for (int[] row : due) {
            Due.is("to one M after the other, " + row[0], growing.lost(RAISED, row[0], -1), row[1]);
        }
    }

    private static void come() {
        Due.sentence(12, "By STEP 0, 3");
        Due.is("by SUM", new FigurePlay().come(SUM, 9, 0, 1), 1);
        Due.is("by SORTED", new FigurePlay().come(SORTED, 9, 0, 1), 1);
        for (int step : new int[] {Edges.FAR_BELOW, -1, TURNED, ADDED, RAISED, PRODUCT, 6, Edges.FAR}) {
            Edges.refused("come by step " + step, x -> x.come(step, 9, 0, 1));
        }

        Due.sentence(12, TO_3000);
        Edges.ends("come, M", (x, m) -> x.come(SORTED, (int) m, 0, 0), 0, 1, 3000, 178);
        FigurePlay zeros = Play.withSame(10, 0);
        Due.is("all to 3000 come to 0", zeros.come(SUM, 3000, 0, 0), 3001);
        Due.is("all to 2999", zeros.come(SUM, 2999, 0, 0), 3000);
        Due.is("0 alone", zeros.come(SUM, 0, 0, 0), 1);

        Due.sentence(12, "how many COME to it (what = 0), how long it is (1)");
        Edges.ends("come, what", (x, what) -> x.come(SUM, 100, 9, (int) what), 0, 11, 1, 1);

        Due.sentence(12, "A NUMBER n is 0 to 1000000000000000 (10 to the 15).");
        Edges.ends("come, the least number", (x, least) -> x.come(SUM, 5, least, 1), 0, 1, MOST, NONE);

        Due.sentence(12, "Of several the first; nothing changes then.");
        Edges.refused("a wrong M, and no least number", x -> x.come(SUM, 3001, MOST, 0));
        Edges.refused("a wrong what, and no least number", x -> x.come(SUM, 5, MOST, 2));
        Edges.keeps("come", Play.squares(), x -> x.come(SUM, 1000, 4, 0), 857, x -> x.come(SUM, 3001, 4, 0),
            x -> x.come(SUM, -1, 4, 0), x -> x.come(SUM, 1000, -1, 0), x -> x.come(SUM, 1000, 4, 2),
            x -> x.come(TURNED, 1000, 4, 0));
    }

    private static void comers(String name, FigurePlay x, int m, long least, int comers, int length) {
        Due.is(name + ", how many", x.come(SUM, m, least, 0), comers);
        Due.is(name + ", how long", x.come(SUM, m, least, 1), length);
    }

    private static void comeToLeast() {
        Due.sentence(12, "told by its least number, of which the CHAIN comes round with TAIL 0");
        comers("4 is the least", Play.squares(), 1000, 4, 857, 8);
        comers("a round of 300", Play.withTable(16, Tables.ROUND_300), 3000, 19998, 0, 300);

        Due.sentence(12, "NONE: it is no such least number; BAD.");
        comers("16 is in the round of 4", Play.squares(), 1000, 16, NONE, NONE);
        comers("20 is the last of it", Play.squares(), 1000, 20, NONE, NONE);
        comers("2 is ahead of it", Play.squares(), 1000, 2, NONE, NONE);
        FigurePlay two = Play.withTable(10, 0, 2, 1);
        comers("1 of the round of 1 and 2", two, 2, 1, 2, 2);
        comers("2 of the same round", two, 2, 2, NONE, NONE);
        comers("6972 is LOST by a round of 301", Play.withTable(16, Tables.ROUND_301), 3000, 6972, NONE, NONE);
        comers("10 to the 15", new FigurePlay(), 3000, MOST, NONE, NONE);
    }

    private static void comeByChains() {
        Due.sentence(12, "how many COME to a ROUND");
        comers("only 0 to 3 could", Play.squares(), 3, 4, 2, 8);
        comers("0 and 1 come elsewhere", Play.squares(), 1, 4, 0, 8);
        comers("0 comes to 5, not to 3", Play.withTable(10, 5, 1, 2, 3, 4, 5), 0, 3, 0, 1);
        comers("0 comes to 5, not to 8", Play.withTable(10, 5, 1, 2, 3, 4, 5, 6, 7, 8), 0, 8, 0, 1);
        Due.is("none to 10 comes to 6174", new FigurePlay().come(SORTED, 10, 6174, 0), 0);
        Due.is("none to 520 comes to 32385 in base 2", Play.inBase(2).come(SORTED, 520, 32385, 0), 0);
        Due.is("it is there all the same", new FigurePlay().come(SORTED, 10, 6174, 1), 1);

        Due.sentence(12, "by CHAINS that come round, how long it is");
        FigurePlay told = Play.withTable(16, Tables.TOLD_300);
        comers("0 with 300 told", told, 0, 16358, 1, 109);
        comers("1 with 301 told does not count", told, 1, 16358, 1, 109);
        comers("0 and 1 are LOST on their way", Play.withTable(16, Tables.TOLD_301), 1, 25359, 0, 262);
    }

    private static void makes() {
        Due.sentence(13, "STEPS: 0 SUM");
        Edges.ends("makes, by step", (x, step) -> x.makes((int) step, 6, 77, -1), 0, 7, 5, 5);

        Due.sentence(13, "A NUMBER n is 0 to 1000000000000000 (10 to the 15).");
        Edges.ends("makes, n", (x, n) -> x.makes(TURNED, n, 5, -1), 0, 1, MOST, 0);
        FigurePlay x = Play.withTable(10, 1, 1, 100000);
        Edges.places("222 makes 10 to the 15", x, (y, i) -> y.makes(PRODUCT, MOST, 222, (int) i), 222);
        Edges.places("none to 221 does", x, (y, i) -> y.makes(PRODUCT, MOST, 221, (int) i));
        Due.is("2222 makes more, which is no number", x.makes(PRODUCT, MOST + 1, 3000, -1), Edges.BAD);

        Due.sentence(13, "MADE BY a STEP to be n: how many of 0 to M (i = -1), the i-th. NONE; BAD.");
        Edges.places("TURNED 21", new FigurePlay(), (y, i) -> y.makes(TURNED, 21, 12000, (int) i), 12, 120, 1200, 12000);
        Edges.places("SORTED to 1", new FigurePlay(), (y, i) -> y.makes(SORTED, 1, 20000, (int) i));

        Due.sentence(13, "Of several the first; nothing changes then.");
        Edges.refused("a wrong M, and none makes it", y -> y.makes(SUM, MOST, 20001, 0));
        Edges.refused("a wrong n, and none makes it", y -> y.makes(SUM, MOST + 1, 5, 0));
        Edges.keeps("makes", new FigurePlay(), y -> y.makes(SUM, 2, 20000, 14), 20000, y -> y.makes(SUM, 2, 20001, 14),
            y -> y.makes(SUM, -1, 20000, 14), y -> y.makes(6, 2, 20000, 14), y -> y.makes(SUM, 2, 20000, -2));
    }

    private static void makesToM() {
        Due.sentence(13, "how many of 0 to M (M to 20000 here) become a number by the STEP, the i-th");
        Edges.ends("makes, M", (x, m) -> x.makes(SUM, 0, (int) m, -1), 0, 1, 20000, 1);
        Edges.places("to 20000", new FigurePlay(), (x, i) -> x.makes(SUM, 2, 20000, (int) i),
            2, 11, 20, 101, 110, 200, 1001, 1010, 1100, 2000, 10001, 10010, 10100, 11000, 20000);
        Edges.places("to 19999", new FigurePlay(), (x, i) -> x.makes(SUM, 2, 19999, (int) i),
            2, 11, 20, 101, 110, 200, 1001, 1010, 1100, 2000, 10001, 10010, 10100, 11000);
        FigurePlay zeros = Play.withSame(10, 0);
        Due.is("all of 0 to 20000", zeros.makes(SUM, 0, 20000, -1), 20001);
        Due.is("the last of them", zeros.makes(SUM, 0, 20000, 20000), 20000);
        Edges.noneBehind("all of them", zeros, (x, i) -> x.makes(SUM, 0, 20000, (int) i), 20001);
    }
}
