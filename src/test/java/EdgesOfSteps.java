/** Promises 1 to 5, sentence by sentence, where a sentence names an edge. */
final class EdgesOfSteps {
    private static final long MOST = Edges.MOST;
    private static final int BAD = Edges.BAD, NONE = Edges.NONE;
    private static final int SUM = 0, TURNED = 1, ADDED = 2, SORTED = 3, RAISED = 4, PRODUCT = 5;

    /** By base from 2 on: SUM, TURNED, SORTED and PRODUCT of 10 to the 15. */
    private static final long[][] OF_MOST = {
        {20, 23833475783L, 1125898832052225L, 0}, {28, 677591616414640L, 1852591314280852L, 0},
        {31, 44231751115L, 1125532953826305L, 0}, {12, 56552, 1763916015623432L, 0},
        {60, 2903675559859495L, 3631802422167685L, 0}, {46, 1421014668834352L, 1621287593803788L, 0},
        {48, 44905002211L, 2246055426405441L, 0}, {64, 363020049040000L, 1389721883853792L, 56010528},
        {1, 1, 999999999999999L, 0}, {90, 3921481321820680L, 4097438713865520L, 0},
        {87, 479187382094409L, 1154161663056314L, 7785676800L}, {100, 3809359417610776L, 3859243249580304L, 0},
        {90, 5185418928198755L, 10056560959938922L, 15941173248L},
        {90, 1352127676486432L, 1638504841360128L, 11176704000L}, {85, 578825387395L, 4183040982745890L, 0}};

    private EdgesOfSteps() {
    }

    static void all() {
        newObject();
        lastCall();
        base();
        table();
        figureOfNumber();
        figureAtPlace();
        stepNumbers();
        sumAndRaised();
        turnedAndAdded();
        sorted();
        product();
        aboveMost();
    }

    private static void newObject() {
        Due.sentence(1, "As told.");
        FigurePlay changed = Play.withSame(16, 100000);
        FigurePlay x = new FigurePlay();
        Due.is("the base, whatever another object has", x.count(0), 10);
        Due.is("all the table, whatever another object has", x.count(1), 120);
        Due.is("the other object's base", changed.count(0), 16);
        Due.is("the other object's table", changed.count(1), 1600000);

        Due.sentence(1, "BASE is 2 to 16 (10 at first)");
        Due.is("base(10)", new FigurePlay().base(10), 10);
        Due.is("10 has two figures", new FigurePlay().figure(10, -1), 2);
        Due.is("9 has one", new FigurePlay().figure(9, -1), 1);

        Due.sentence(1, "(the figure itself at first)");
        for (int d = 0; d < 16; d++) {
            Due.is("table(" + d + ", 0)", new FigurePlay().table(d, 0), d);
        }

        Due.sentence(1, "public static final int BAD = -1, NONE = -4;");
        Due.is("BAD", FigurePlay.BAD, -1);
        Due.is("NONE", FigurePlay.NONE, -4);
    }

    private static void lastCall() {
        Due.sentence(1, "An object is used for at most 512 calls after it has been made");
        Due.is("the 512th call, count(0)", usedUp().count(0), 5);
        Due.is("the 512th call, table", usedUp().table(509 % 16, 0), 509);
        Due.is("the 512th call, chained: 12 and 21 by turns", usedUp().chained(TURNED, 7, 511), 11);
        Due.is("the 512th call, refused", usedUp().base(17), BAD);
        Due.is("the 512th call, none", usedUp().figure(0, 1), NONE);
    }

    /** 511 calls: by turns the base and the table are set; the last call sets base 5. */
    private static FigurePlay usedUp() {
        FigurePlay x = new FigurePlay();
        for (int call = 0; call < 511; call++) {
            if (call % 2 == 0) {
                x.base(2 + call % 13);
            } else {
                x.table(call % 16, call);
            }
        }
        return x;
    }

    private static void base() {
        Due.sentence(2, "BASE is 2 to 16");
        Edges.ends("base", (x, b) -> x.base((int) b), 2, 10, 16, 10);
        for (int b = 2; b <= 16; b++) {
            Due.is("base " + b + " is set", Play.inBase(b).count(0), b);
            Due.is("the greatest figure alone", Play.inBase(b).figure(b - 1, -1), 1);
            Due.is("the first number of two figures", Play.inBase(b).figure(b, -1), 2);
        }

        Due.sentence(2, "BASE: what it was. BAD.");
        FigurePlay x = new FigurePlay();
        int[][] calls = {{16, 10}, {2, 16}, {2, 2}, {1, BAD}, {17, BAD}, {16, 2}, {17, BAD}, {10, 16}};
        for (int[] call : calls) {
            Due.is("base(" + call[0] + ")", x.base(call[0]), call[1]);
        }

        Due.sentence(2, "nothing changes then");
        FigurePlay y = new FigurePlay();
        Edges.keeps("rounds", y, z -> z.rounds(0, 20, -1), 10, z -> z.base(1), z -> z.base(17));
        Edges.keeps("few", y, z -> z.few(7, 2, -1), 6, z -> z.base(1), z -> z.base(17));
        Edges.keeps("figure", y, z -> z.figure(1000, -1), 4, z -> z.base(1), z -> z.base(17));
    }

    private static void table() {
        Due.sentence(3, "f of a figure 0 to 15 is 0 to 100000");
        Edges.ends("table, the figure", (x, d) -> x.table((int) d, 7), 0, 0, 15, 15);
        Edges.ends("table, what it is", (x, v) -> x.table(5, (int) v), 0, 5, 100000, 5);
        Edges.refused("table, both wrong", x -> x.table(16, 100001));
        Edges.refused("table, both below", x -> x.table(-1, -1));
        for (int v : new int[] {0, 100000}) {
            FigurePlay x = Play.inBase(16);
            for (int d = 0; d < 16; d++) {
                x.table(d, v);
                Due.is("SUM of " + d + " by f of " + v, x.step(SUM, d), v);
            }
        }

        Due.sentence(3, "f of a figure: what it was. BAD.");
        FigurePlay x = new FigurePlay();
        int[][] calls = {{9, 100000, 9}, {9, 0, 100000}, {9, 0, 0}, {9, 100001, BAD}, {9, -1, BAD}, {9, 5, 0},
            {-1, 6, BAD}, {16, 6, BAD}, {0, 1, 0}, {15, 1, 15}};
        for (int[] call : calls) {
            Due.is("table(" + call[0] + ", " + call[1] + ")", x.table(call[0], call[1]), call[2]);
        }
        x.base(2);
        Due.is("a figure beyond the BASE has its f", x.table(2, 8), 2);
        Due.is("so has the last of all", x.table(15, 9), 1);
        x.base(16);
        Due.is("these stay when the BASE changes", x.step(SUM, 0xF2), 17);

        Due.sentence(3, "nothing changes then");
        FigurePlay y = new FigurePlay();
        Edges.Call[] wrong = {z -> z.table(1, 100001), z -> z.table(1, -1), z -> z.table(16, 1), z -> z.table(-1, 1)};
        Edges.keeps("bare", y, z -> z.bare(100, -1), 13, wrong);
        Edges.keeps("rounds", y, z -> z.rounds(0, 100, -1), 10, wrong);
        Edges.keeps("step", y, z -> z.step(RAISED, 111), 114, wrong);
    }

    private static void figureOfNumber() {
        Due.sentence(4, "A NUMBER n is 0 to 1000000000000000 (10 to the 15).");
        Edges.ends("figure, how many", (x, n) -> x.figure(n, -1), 0, 1, MOST, 16);
        Edges.ends("figure, the first", (x, n) -> x.figure(n, 0), 0, 0, MOST, 1);
        int[] many = {50, 32, 25, 22, 20, 18, 17, 16, 16, 15, 14, 14, 14, 13, 13};
        int[] first = {1, 1, 3, 2, 1, 4, 3, 4, 1, 2, 9, 3, 1, 7, 3};
        int[] last = {0, 1, 0, 0, 4, 6, 0, 1, 0, 10, 4, 12, 6, 10, 0};
        for (int b = 2; b <= 16; b++) {
            FigurePlay x = Play.inBase(b);
            int size = many[b - 2];
            Due.is("figures of 10 to the 15 in base " + b, x.figure(MOST, -1), size);
            Due.is("the first of them", x.figure(MOST, 0), first[b - 2]);
            Due.is("the last of them", x.figure(MOST, size - 1), last[b - 2]);
            Due.is("behind the last", x.figure(MOST, size), NONE);
        }

        Due.sentence(4, "no 0 ahead (0 has one figure, 0)");
        for (int b = 2; b <= 16; b++) {
            Edges.places("figures of 0", Play.inBase(b), (x, i) -> x.figure(0, (int) i), 0);
            Edges.places("figures of 1", Play.inBase(b), (x, i) -> x.figure(1, (int) i), 1);
            long power = (long) b * b;
            Edges.places("figures of the base twice", Play.inBase(b), (x, i) -> x.figure(power, (int) i), 1, 0, 0);
            Edges.places("one less", Play.inBase(b), (x, i) -> x.figure(power - 1, (int) i), b - 1, b - 1);
        }
    }

    private static void figureAtPlace() {
        Due.sentence(4, "How many FIGURES a number has (i = -1), the i-th from the front.");
        Edges.places("figures of 907", new FigurePlay(), (x, i) -> x.figure(907, (int) i), 9, 0, 7);
        Edges.places("figures of 255", Play.inBase(16), (x, i) -> x.figure(255, (int) i), 15, 15);

        Due.sentence(4, "NONE; BAD.");
        Due.is("figure(907, 2)", new FigurePlay().figure(907, 2), 7);
        Due.is("figure(907, 3)", new FigurePlay().figure(907, 3), NONE);

        Due.sentence(4, "Of several the first");
        Edges.refused("a number too great, and no such place", x -> x.figure(MOST + 1, 99));
        Edges.refused("a number too small, and no such place", x -> x.figure(-1, 99));
    }

    private static void stepNumbers() {
        Due.sentence(5, "STEPS: 0 SUM");
        Edges.ends("step, by number", (x, step) -> x.step((int) step, 23), 0, 5, 5, 6);
        long[] of23 = {5, 32, 55, 9, 28, 6};
        for (int step = 0; step < 6; step++) {
            Due.is("step " + step + " of 23", new FigurePlay().step(step, 23), of23[step]);
        }

        Due.sentence(5, "A NUMBER n is 0 to 1000000000000000 (10 to the 15).");
        long[] ofMost = {1, 1, MOST + 1, MOST - 1, MOST + 1, 0};
        for (int step = 0; step < 6; step++) {
            int by = step;
            Edges.ends("step " + step, (x, n) -> x.step(by, n), 0, 0, MOST, ofMost[step]);
        }
        Edges.refused("a wrong step of a wrong number", x -> x.step(6, MOST + 1));
        for (int b = 2; b <= 16; b++) {
            long[] of = OF_MOST[b - 2];
            long[] due = {of[0], of[1], MOST + of[1], of[2], MOST + of[0], of[3]};
            for (int step = 0; step < 6; step++) {
                Due.is("step " + step + " of 10 to the 15, base " + b, Play.inBase(b).step(step, MOST), due[step]);
                Due.is("step " + step + " of 0, base " + b, Play.inBase(b).step(step, 0), 0);
            }
        }
    }

    private static void sumAndRaised() {
        Due.sentence(5, "0 SUM: f of all figures together");
        Due.is("0 has one figure, whose f counts", Play.withOne(10, 0, 100000).step(SUM, 0), 100000);
        Due.is("no 0 ahead counts", Play.withOne(10, 0, 100000).step(SUM, 7), 0);
        Due.is("50 figures of the greatest f", Play.withSame(2, 100000).step(SUM, MOST), 5000000);
        Due.is("all f are 0", Play.withSame(2, 0).step(SUM, MOST), 0);

        Due.sentence(5, "4 RAISED: n and SUM");
        Due.is("0 and f of 0", Play.withOne(10, 0, 100000).step(RAISED, 0), 100000);
        Due.is("50 figures of the greatest f", Play.withSame(2, 100000).step(RAISED, MOST), MOST + 5000000);
        Due.is("all f are 0", Play.withSame(2, 0).step(RAISED, MOST), MOST);
    }

    private static void turnedAndAdded() {
        Due.sentence(5, "1 TURNED: figures the other way about (0s that come ahead go)");
        FigurePlay x = new FigurePlay();
        long[][] turned = {{0, 0}, {7, 7}, {10, 1}, {1200, 21}, {1002, 2001}, {MOST, 1}, {MOST - 1, MOST - 1},
            {MOST - 10, 99999999999999L}};
        for (long[] row : turned) {
            Due.is("TURNED " + row[0], x.step(TURNED, row[0]), row[1]);
        }
        Due.is("TURNED 12 in base 2", Play.inBase(2).step(TURNED, 12), 3);
        Due.is("f does not count", Play.withSame(10, 3).step(TURNED, 1200), 21);

        Due.sentence(5, "2 ADDED: n and TURNED");
        Due.is("ADDED of 0", x.step(ADDED, 0), 0);
        Due.is("ADDED of 1200", x.step(ADDED, 1200), 1221);
        Due.is("ADDED of 10 to the 15 less 1", x.step(ADDED, MOST - 1), 2 * MOST - 2);
    }

    private static void sorted() {
        Due.sentence(5, "3 SORTED: figures falling less figures rising (as many, 0s ahead counted)");
        FigurePlay x = new FigurePlay();
        long[][] sorted = {{0, 0}, {7, 0}, {10, 9}, {100, 99}, {1000, 999}, {11, 0}, {3524, 3087}, {5000, 4995},
            {MOST, MOST - 1}, {MOST - 1, 0}};
        for (long[] row : sorted) {
            Due.is("SORTED " + row[0], x.step(SORTED, row[0]), row[1]);
        }
        Due.is("SORTED 8 in base 2: 1000 less 0001", Play.inBase(2).step(SORTED, 8), 7);
        Due.is("f does not count", Play.withSame(10, 3).step(SORTED, 1000), 999);
    }

    private static void product() {
        Due.sentence(5, "5 PRODUCT: f of all figures multiplied");
        Due.is("0 has one figure, whose f counts", Play.withOne(10, 0, 100000).step(PRODUCT, 0), 100000);
        Due.is("no 0 ahead counts", new FigurePlay().step(PRODUCT, 7), 7);
        Due.is("a 0 between", new FigurePlay().step(PRODUCT, 204), 0);

        Due.sentence(5, "(10 to the 15 and 1 in place of what is above 10 to the 15)");
        FigurePlay x = Play.withTable(10, 0, 1, 100000, 10);
        long[][] made = {{222, MOST}, {2221, MOST}, {2223, MOST + 1}, {3222, MOST + 1}, {2222, MOST + 1},
            {222222222222222L, MOST + 1}, {22220, 0}, {2022222, 0}, {222222222222220L, 0}};
        for (long[] row : made) {
            Due.is("PRODUCT of " + row[0], x.step(PRODUCT, row[0]), row[1]);
        }
        int[] below = {0, 0, 0, 0, 152, 2269, 49999, 57991};
        Due.is("10 to the 15 less 8", Play.withTable(10, below).step(PRODUCT, 4567), MOST - 8);
        int[] oneAbove = {0, 0, 0, 0, 1001, 50851, 2161, 9091};
        Due.is("10 to the 15 and 1", Play.withTable(10, oneAbove).step(PRODUCT, 4567), MOST + 1);
        int[] fiveAbove = {0, 0, 0, 0, 255, 1873, 41161, 50867};
        Due.is("in place of 10 to the 15 and 5", Play.withTable(10, fiveAbove).step(PRODUCT, 7654), MOST + 1);
        Due.is("of 50 figures", Play.withTable(2, 100000, 100000).step(PRODUCT, MOST), MOST + 1);
    }

    private static void aboveMost() {
        Due.sentence(5, "What a STEP makes of a number (it may be above 10 to the 15). BAD.");
        FigurePlay two = Play.inBase(2);
        Due.is("TURNED, by 1", two.step(TURNED, 562973786897095L), MOST + 1);
        Due.is("ADDED, by 1", new FigurePlay().step(ADDED, MOST), MOST + 1);
        long half = (1L << 49) + (1L << 25) - 1;
        Due.is("SORTED, 26 ones and 24 zeros", two.step(SORTED, half), ((1L << 26) - 1) * ((1L << 24) - 1));
        Due.is("RAISED, by 1", Play.withOne(10, 8, 3).step(RAISED, MOST - 2), MOST + 1);
        Due.is("RAISED, to 10 to the 15", Play.withOne(10, 8, 2).step(RAISED, MOST - 2), MOST);
    }
}
