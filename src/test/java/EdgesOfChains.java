/** Promises 6 to 8, sentence by sentence, where a sentence names an edge. */
final class EdgesOfChains {
    private static final long MOST = Edges.MOST;
    private static final int NONE = Edges.NONE;
    private static final int SUM = 0, TURNED = 1, ADDED = 2, SORTED = 3, RAISED = 4, PRODUCT = 5;

    private EdgesOfChains() {
    }

    static void all() {
        chainOfNumber();
        comesRound();
        aboveMost();
        threeHundredMore();
        lostTail();
        chainedAround();
        chainedTillLost();
        roundsOfStep();
        roundsToM();
        roundsByLeast();
        noRounds();
    }

    private static void chain(String name, FigurePlay x, int step, long n, int tail, int round) {
        Due.is(name + ", TAIL", x.chain(step, n, 0), tail);
        Due.is(name + ", ROUND", x.chain(step, n, 1), round);
    }

    private static void chainOfNumber() {
        Due.sentence(6, "A NUMBER n is 0 to 1000000000000000 (10 to the 15).");
        Edges.ends("chain by SUM, TAIL", (x, n) -> x.chain(SUM, n, 0), 0, 0, MOST, 1);
        Edges.ends("chain by ADDED, ROUND", (x, n) -> x.chain(ADDED, n, 1), 0, 1, MOST, 0);

        Due.sentence(6, "STEPS: 0 SUM");
        Edges.ends("chain, by step", (x, step) -> x.chain((int) step, 77, 0), 0, 2, 5, 4);

        Due.sentence(6, "A CHAIN: TAIL (what = 0), ROUND (1). BAD.");
        Edges.ends("chain, what", (x, what) -> x.chain(TURNED, 1200, (int) what), 0, 1, 1, 2);
        Edges.refused("all is wrong", x -> x.chain(6, -1, 2));
    }

    private static void comesRound() {
        Due.sentence(6, "it COMES ROUND, if a number comes that was there: TAIL: how many ahead of that one, "
            + "ROUND: how many come again");
        chain("0 by SUM stands still", new FigurePlay(), SUM, 0, 0, 1);
        chain("9 by SUM stands still", new FigurePlay(), SUM, 9, 0, 1);
        chain("10 by SUM comes to 1", new FigurePlay(), SUM, 10, 1, 1);
        chain("12 and 21 by TURNED", new FigurePlay(), TURNED, 12, 0, 2);
        chain("120 comes to 21 and 12", new FigurePlay(), TURNED, 120, 1, 2);
        chain("4 by squares", Play.squares(), SUM, 4, 0, 8);
        chain("2 by squares comes to 4", Play.squares(), SUM, 2, 1, 8);
        chain("16 by squares is in the round", Play.squares(), SUM, 16, 0, 8);
    }

    private static void aboveMost() {
        Due.sentence(6, "it is LOST, if a number above 10 to the 15 comes");
        chain("RAISED to 10 to the 15", Play.withOne(10, 8, 2), RAISED, MOST - 2, 1, 1);
        chain("RAISED to 1 above", Play.withOne(10, 8, 3), RAISED, MOST - 2, 1, 0);
        chain("PRODUCT of 10 to the 15", Play.withTable(10, 1, 1, 100000), PRODUCT, 222, 2, 1);
        chain("PRODUCT above", Play.withTable(10, 1, 1, 100000), PRODUCT, 2222, 1, 0);
        FigurePlay below = Play.withTable(10, 0, 0, 0, 0, 152, 2269, 49999, 57991);
        chain("PRODUCT of 10 to the 15 less 8", below, PRODUCT, 4567, 2, 1);
        FigurePlay above = Play.withTable(10, 0, 0, 0, 0, 1001, 50851, 2161, 9091);
        chain("PRODUCT of 10 to the 15 and 1", above, PRODUCT, 4567, 1, 0);
        chain("TURNED to 1 above", Play.inBase(2), TURNED, 562973786897095L, 1, 0);
        chain("ADDED to 1 above", new FigurePlay(), ADDED, MOST, 1, 0);
        chain("SORTED far above", Play.inBase(2), SORTED, (1L << 49) + (1L << 25) - 1, 1, 0);
        chain("10 to the 15 itself is not above", new FigurePlay(), SORTED, MOST, 2, 1);
    }

    private static void threeHundredMore() {
        Due.sentence(6, "or n and 300 more are told");
        FigurePlay ones = Play.withOne(10, 1, 1);
        chain("300 told, the last stands still", ones, RAISED, 1655, 299, 1);
        chain("301 told, the last would stand still", ones, RAISED, 1654, 301, 0);
        chain("a round of 300", Play.withTable(16, Tables.ROUND_300), SUM, 19998, 0, 300);
        chain("a round of 301", Play.withTable(16, Tables.ROUND_301), SUM, 6972, 301, 0);
        chain("300 told ahead of one that was there", Play.withTable(16, Tables.TOLD_300), SUM, 0, 191, 109);
        chain("301 told, by one more ahead of it", Play.withTable(16, Tables.TOLD_300), SUM, 1, 301, 0);
        chain("301 told", Play.withTable(16, Tables.TOLD_301), SUM, 0, 301, 0);
    }

    private static void lostTail() {
        Due.sentence(6, "(ROUND 0; TAIL: all told, not one above)");
        chain("1 by RAISED, 301 told", new FigurePlay(), RAISED, 1, 301, 0);
        chain("196 by ADDED, 30 told", new FigurePlay(), ADDED, 196, 30, 0);
        chain("one told", new FigurePlay(), RAISED, MOST, 1, 0);
        chain("one told, the next is above", new FigurePlay(), RAISED, MOST - 3, 1, 0);
        chain("two told, 10 to the 15 among them", Play.withTable(10, 0, 1, 0, 0, 0, 0, 0, 0, 2), RAISED, MOST - 2, 2, 0);
    }

    private static void chainedAround() {
        Due.sentence(7, "The i-th number of a CHAIN (0: n; it goes on round).");
        Edges.ends("chained, n itself", (x, n) -> x.chained(SUM, n, 0), 0, 0, MOST, MOST);
        Edges.ends("chained, by step", (x, step) -> x.chained((int) step, 23, 1), 0, 5, 5, 6);
        Due.is("TURNED 1200, far", new FigurePlay().chained(TURNED, 1200, Edges.FAR), 21);
        Edges.beyond("chained, the place", (x, i) -> x.chained(TURNED, 1200, (int) i), -1, Edges.FAR_BELOW);
        long[] squares = {2, 4, 16, 37, 58, 89, 145, 42, 20, 4, 16};
        for (int i = 0; i < squares.length; i++) {
            Due.is("from 2 by squares, at " + i, Play.squares().chained(SUM, 2, i), squares[i]);
        }
        Due.is("from 4 by squares, far", Play.squares().chained(SUM, 4, Edges.FAR), 20);
        FigurePlay round = Play.withTable(16, Tables.ROUND_300);
        long[][] due = {{0, 19998}, {299, 100571}, {300, 19998}, {301, 50130}, {Edges.FAR, 183803}};
        for (long[] row : due) {
            Due.is("a round of 300, at " + row[0], round.chained(SUM, 19998, (int) row[0]), row[1]);
        }
        FigurePlay told = Play.withTable(16, Tables.TOLD_300);
        Due.is("a TAIL of 191, the last told", told.chained(SUM, 0, 299), 129693);
        Due.is("a TAIL of 191, it goes on", told.chained(SUM, 0, 300), 204106);
        Due.is("a TAIL of 191, where it went on", told.chained(SUM, 0, 191), 204106);
        Due.is("it stands still at the end", Play.withOne(10, 1, 1).chained(RAISED, 1655, Edges.FAR), 2000);
    }

    private static void chainedTillLost() {
        Due.sentence(7, "NONE: it is LOST ahead of it; BAD.");
        Due.is("RAISED, 10 to the 15 is told", Play.withOne(10, 8, 2).chained(RAISED, MOST - 2, 1), MOST);
        Due.is("RAISED, 1 above is not", Play.withOne(10, 8, 3).chained(RAISED, MOST - 2, 1), NONE);
        Due.is("PRODUCT, 10 to the 15 is told", Play.withTable(10, 1, 1, 100000).chained(PRODUCT, 222, 1), MOST);
        Due.is("PRODUCT, above is not", Play.withTable(10, 1, 1, 100000).chained(PRODUCT, 2222, 1), NONE);
        Due.is("196 by ADDED, the 30th told", new FigurePlay().chained(ADDED, 196, 29), 755127757721546L);
        Due.is("196 by ADDED, no 31st", new FigurePlay().chained(ADDED, 196, 30), NONE);
        Due.is("1 by RAISED, the 301st", new FigurePlay().chained(RAISED, 1, 300), 4375);
        Due.is("1 by RAISED, no 302nd", new FigurePlay().chained(RAISED, 1, 301), NONE);
        Due.is("1 by RAISED, far", new FigurePlay().chained(RAISED, 1, Edges.FAR), NONE);
        FigurePlay ones = Play.withOne(10, 1, 1);
        Due.is("it would stand still, the 301st", ones.chained(RAISED, 1654, 300), 2000);
        Due.is("it would stand still, no 302nd", ones.chained(RAISED, 1654, 301), NONE);
        Due.is("a round of 301, the last told", Play.withTable(16, Tables.ROUND_301).chained(SUM, 6972, 300), 29460);
        Due.is("a round of 301, none goes on", Play.withTable(16, Tables.ROUND_301).chained(SUM, 6972, 301), NONE);

        Due.sentence(7, "Of several the first");
        Edges.refused("a wrong number, LOST as well", x -> x.chained(ADDED, MOST + 1, 5));
        Edges.refused("a wrong step, LOST as well", x -> x.chained(6, MOST, 5));
    }

    private static void roundsOfStep() {
        Due.sentence(8, "ROUNDS of STEP 0, 3");
        Due.is("by SUM", new FigurePlay().rounds(SUM, 99, -1), 10);
        Due.is("by SORTED", new FigurePlay().rounds(SORTED, 99, -1), 1);
        for (int step : new int[] {Edges.FAR_BELOW, -1, TURNED, ADDED, RAISED, PRODUCT, 6, Edges.FAR}) {
            Edges.refused("rounds by step " + step, x -> x.rounds(step, 99, -1));
        }

        Due.sentence(8, "how many (i = -1), the least number of the i-th. NONE; BAD.");
        Edges.places("by SUM", new FigurePlay(), (x, i) -> x.rounds(SUM, 20000, (int) i), 0, 1, 2, 3, 4, 5, 6, 7, 8, 9);
        Edges.places("by squares", Play.squares(), (x, i) -> x.rounds(SUM, 1000, (int) i), 0, 1, 4);
        Edges.places("by SORTED", new FigurePlay(), (x, i) -> x.rounds(SORTED, 9999, (int) i), 0, 495, 6174);

        Due.sentence(8, "Of several the first; nothing changes then.");
        Edges.refused("too many, and no such place", x -> x.rounds(SUM, 20001, Edges.FAR));
        Edges.keeps("rounds by squares", Play.squares(), x -> x.rounds(SUM, 1000, 2), 4, x -> x.rounds(SUM, 20001, 2),
            x -> x.rounds(SUM, -1, 2), x -> x.rounds(TURNED, 1000, 2), x -> x.rounds(SUM, 1000, -2));
    }

    private static void roundsToM() {
        Due.sentence(8, "all ROUNDS of CHAINS from numbers 0 to M (M to 20000)");
        Edges.ends("rounds, M", (x, m) -> x.rounds(SUM, (int) m, -1), 0, 1, 20000, 10);
        Due.is("to 8", new FigurePlay().rounds(SUM, 8, -1), 9);
        Due.is("to 9", new FigurePlay().rounds(SUM, 9, -1), 10);
        FigurePlay last = Play.withTable(10, 4000, 0, 4000);
        Edges.places("to 20000, which alone stands still", last, (x, i) -> x.rounds(SUM, 20000, (int) i), 12000, 20000);
        Edges.places("to 19999 behind it", last, (x, i) -> x.rounds(SUM, 19999, (int) i), 12000);
        Edges.places("to 20000 once more", last, (x, i) -> x.rounds(SUM, 20000, (int) i), 12000, 20000);
        FigurePlay round = Play.withTable(16, Tables.ROUND_300);
        Edges.places("to 19997, a round of 300 is LOST to all", round, (x, i) -> x.rounds(SUM, 19997, (int) i),
            31129, 193525, 203090);
        Edges.places("to 19998, which is in that round", round, (x, i) -> x.rounds(SUM, 19998, (int) i),
            19998, 31129, 193525, 203090);
        Edges.places("to 20000, a round of 301 is LOST to all", Play.withTable(16, Tables.ROUND_301),
            (x, i) -> x.rounds(SUM, 20000, (int) i), 59636, 187502, 193014);
    }

    private static void roundsByLeast() {
        Due.sentence(8, "by their least numbers");
        FigurePlay x = Play.withTable(10, 5, 1, 2, 3, 4, 5, 6, 7, 8, 9);
        Edges.places("0 comes to 5, which is ahead of none", x, (y, i) -> y.rounds(SUM, 0, (int) i), 5);
        Edges.places("later numbers' rounds stand ahead of it", x, (y, i) -> y.rounds(SUM, 3, (int) i), 1, 2, 3, 5);
        FigurePlay z = Play.withTable(10, 5, 7, 2, 3, 4, 5, 6, 7);
        Edges.places("found as 5, 7 and 2", z, (y, i) -> y.rounds(SUM, 2, (int) i), 2, 5, 7);
        Due.is("each round is there once", new FigurePlay().rounds(SUM, 9999, -1), 10);
        Edges.places("the most rounds by SUM as it is made", Play.inBase(16), (y, i) -> y.rounds(SUM, 20000, (int) i),
            0, 1, 2, 3, 4, 5, 6, 7, 8, 9, 10, 11, 12, 13, 14, 15);
        Edges.places("many rounds by SORTED", Play.inBase(2), (y, i) -> y.rounds(SORTED, 20000, (int) i),
            0, 9, 21, 45, 49, 93, 105, 189, 217, 225, 381, 441, 465, 765, 889, 945, 961, 1533, 1785, 1905, 1953, 3069,
            3577, 3825, 3937, 3969, 6141, 7161, 7665, 7905, 8001, 12285, 14329, 15345, 15841, 16065, 16129, 24573,
            28665, 30705, 31713, 32193, 32385);
    }

    private static void noRounds() {
        Due.sentence(8, "NONE: there is none.");
        FigurePlay x = Play.withTable(16, Tables.TOLD_301);
        Edges.places("0 is LOST", x, (y, i) -> y.rounds(SUM, 0, (int) i));
        Edges.places("0 and 1 are LOST", x, (y, i) -> y.rounds(SUM, 1, (int) i));
        FigurePlay told = Play.withTable(16, Tables.TOLD_300);
        Edges.places("0 comes round with 300 told", told, (y, i) -> y.rounds(SUM, 0, (int) i), 16358);
    }
}
