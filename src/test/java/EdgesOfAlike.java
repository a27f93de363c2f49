/** Promises 14 to 18, sentence by sentence, where a sentence names an edge. */
final class EdgesOfAlike {
    private static final long MOST = Edges.MOST;
    private static final int NONE = Edges.NONE;
    private static final String NUMBER = "A NUMBER n is 0 to 1000000000000000 (10 to the 15).";
    /** By base from 2 on: how many numbers to 10 to the 15 are alike, and the last two of them. */
    private static final long[][] LAST = {
        {63356754, 999999971654343L, 999999996820167L}, {66277293, 999999943655908L, 999999962787784L},
        {76381860, 999999973029323L, 999999994000843L}, {69308124, 999999941369052L, 999999999962802L},
        {77004346, 999999873850663L, 999999944394535L}, {65134539, 999999952794392L, 999999998912800L},
        {76381860, 999999979386083L, 999999996163299L}, {66277293, 999999933173230L, 999999981002920L},
        {109999999, 999999989999999L, 999999999999999L}, {70802982, 999999975741703L, 999999995228874L},
        {63739972, 999999949339209L, 999999988157001L}, {78685147, 999999872429782L, 999999940005108L},
        {114899954, 999999884041635L, 999999996984675L}, {99182119, 999999979720807L, 999999991111432L},
        {76381860, 999999981649283L, 999999998426499L}};
    /** By base from 2 on: the least number that is made of no fewer than 3. */
    private static final int[] LEAST_OF_THREE = {11, 7, 9, 11, 13, 15, 17, 19, 21, 23, 25, 27, 29, 31, 33};

    private EdgesOfAlike() {
    }

    static void all() {
        alike();
        alikes();
        alikeAt();
        next();
        made();
        madeOfFew();
    }

    private static void alike() {
        Due.sentence(14, NUMBER);
        Edges.ends("alike", FigurePlay::alike, 0, 1, MOST, 0);

        Due.sentence(14, "ALIKE is a number that is TURNED itself (by as many figures).");
        for (int b = 2; b <= 16; b++) {
            FigurePlay x = Play.inBase(b);
            Due.is("the greatest figure alone", x.alike(b - 1), 1);
            Due.is("10, which is 01 turned", x.alike(b), 0);
            Due.is("11", x.alike(b + 1), 1);
            Due.is("100", x.alike(b * b), 0);
            Due.is("101", x.alike(b * b + 1), 1);
            Due.is("110, which is 011 turned", x.alike(b * b + b), 0);
            Due.is("1001", x.alike(b * b * b + 1), 1);
            Due.is("1010", x.alike(b * b * b + b), 0);
        }
        Due.is("f does not count", Play.withSame(10, 5).alike(12), 0);

        Due.sentence(14, "1: ALIKE; 0. BAD.");
        for (int b = 2; b <= 16; b++) {
            Due.is("the last one in base " + b, Play.inBase(b).alike(LAST[b - 2][2]), 1);
            Due.is("one less", Play.inBase(b).alike(LAST[b - 2][2] - 1), 0);
            Due.is("10 to the 15 in base " + b, Play.inBase(b).alike(MOST), 0);
        }
    }

    private static void alikes() {
        Due.sentence(15, NUMBER);
        Edges.ends("alikes", FigurePlay::alikes, 0, 1, MOST, 109999999);

        Due.sentence(15, "ALIKE up to N: how many. BAD.");
        for (int b = 2; b <= 16; b++) {
            FigurePlay x = Play.inBase(b);
            long[] last = LAST[b - 2];
            Due.is("the figures", x.alikes(b - 1), b);
            Due.is("and 10", x.alikes(b), b);
            Due.is("and 11", x.alikes(b + 1), b + 1);
            Due.is("all of two figures", x.alikes(b * b - 1), 2 * b - 1);
            Due.is("all but the last one, base " + b, x.alikes(last[2] - 1), last[0] - 1);
            Due.is("with the last one, base " + b, x.alikes(last[2]), last[0]);
            Due.is("to 10 to the 15, base " + b, x.alikes(MOST), last[0]);
        }
    }

    private static void alikeAt() {
        Due.sentence(16, "The i-th ALIKE (0 first).");
        Due.is("the first", new FigurePlay().alikeAt(0), 0);
        Due.is("the second", new FigurePlay().alikeAt(1), 1);
        Edges.beyond("alikeAt", FigurePlay::alikeAt, -1, Long.MIN_VALUE);

        Due.sentence(16, "NONE: above 10 to the 15; BAD.");
        for (int b = 2; b <= 16; b++) {
            FigurePlay x = Play.inBase(b);
            long[] last = LAST[b - 2];
            Due.is("the last but one, base " + b, x.alikeAt(last[0] - 2), last[1]);
            Due.is("the last, base " + b, x.alikeAt(last[0] - 1), last[2]);
            Due.is("behind it, base " + b, x.alikeAt(last[0]), NONE);
            Due.is("10 to the 15 of them", x.alikeAt(MOST), NONE);
            Due.is("one more", x.alikeAt(MOST + 1), NONE);
            Due.is("far", x.alikeAt(Long.MAX_VALUE), NONE);
            Due.is("the last figure", x.alikeAt(b - 1), b - 1);
            Due.is("11", x.alikeAt(b), b + 1);
            Due.is("the last of two figures", x.alikeAt(2 * b - 2), b * b - 1);
            Due.is("101", x.alikeAt(2 * b - 1), b * b + 1);
        }
    }

    private static void next() {
        Due.sentence(17, NUMBER);
        Edges.ends("next", FigurePlay::next, 0, 0, MOST, NONE);

        Due.sentence(17, "the least ALIKE that is no less than n");
        long[][] due = {{9, 9}, {10, 11}, {11, 11}, {12, 22}, {99, 99}, {100, 101}, {191, 191}, {192, 202}, {998, 999},
            {999, 999}, {1000, 1001}, {1001, 1001}, {1002, 1111}, {9998, 9999}, {10000, 10001}, {12921, 12921},
            {12922, 13031}};
        for (long[] row : due) {
            Due.is("next(" + row[0] + ")", new FigurePlay().next(row[0]), row[1]);
        }
        for (int b = 2; b <= 16; b++) {
            Due.is("behind all of two figures", Play.inBase(b).next(b * b), b * b + 1);
            Due.is("the last of two figures", Play.inBase(b).next(b * b - 1), b * b - 1);
        }

        Due.sentence(17, "The least ALIKE no less than n. NONE: above 10 to the 15; BAD.");
        for (int b = 2; b <= 16; b++) {
            FigurePlay x = Play.inBase(b);
            long[] last = LAST[b - 2];
            Due.is("behind the last but one, base " + b, x.next(last[1] + 1), last[2]);
            Due.is("the last, base " + b, x.next(last[2]), last[2]);
            Due.is("behind the last, base " + b, x.next(last[2] + 1), NONE);
            Due.is("10 to the 15, base " + b, x.next(MOST), NONE);
        }
    }

    private static void made() {
        Due.sentence(18, "that together are n (n 1 to 10000)");
        Edges.ends("made", (x, n) -> x.made((int) n), 1, 1, 10000, 2);
        Due.is("10000 in base 9 is alike", Play.inBase(9).made(10000), 1);
        Due.is("10000 in base 3", Play.inBase(3).made(10000), 3);

        Due.sentence(18, "Of several the first; nothing changes then.");
        FigurePlay used = new FigurePlay();
        Due.is("made(176) in base 10", used.made(176), 2);
        used.base(2);
        Edges.keeps("made(176) in base 2", used, x -> x.made(176), 4, x -> x.made(0), x -> x.made(10001));

        Due.sentence(18, "MADE of ALIKE: the fewest (each above 0)");
        for (int b = 2; b <= 16; b++) {
            FigurePlay x = Play.inBase(b);
            Due.is("a figure is made of itself", x.made(b - 1), 1);
            Due.is("10 is made of two", x.made(b), 2);
            Due.is("11 is made of itself", x.made(b + 1), 1);
            Due.is("one less than the least of three, base " + b, x.made(LEAST_OF_THREE[b - 2] - 1) < 3 ? 1 : 0, 1);
            Due.is("the least of three, base " + b, x.made(LEAST_OF_THREE[b - 2]), 3);
        }
    }

    private static void madeOfFew() {
        Due.sentence(18, "MADE. NONE; BAD.");
        Edges.refused("made, below", x -> x.made(0));
        Edges.refused("made, above", x -> x.made(10001));

        Due.sentence(18, "up to 4; none");
        Due.is("the least of four in base 2", Play.inBase(2).made(176), 4);
        Due.is("the last of four in base 2", Play.inBase(2).made(9988), 4);
        FigurePlay x = Play.inBase(2);
        int calls = 0;
        for (int n = 1; n <= 10000; n++) {
            int made = x.made(n);
            Due.holds("up to 4 make " + n + " in base 2", made >= 1 && made <= 4 && (n >= 176 || made < 4));
            calls++;
            if (calls == 500) {
                x = Play.inBase(2);
                calls = 0;
            }
        }
    }
}
