/** Objects made ready for tests. */
final class Play {
    private Play() {
    }

    static FigurePlay inBase(int b) {
        FigurePlay x = new FigurePlay();
        x.base(b);
        return x;
    }

    /** The figures that are not told are worth 0. */
    static FigurePlay withTable(int b, int... worths) {
        FigurePlay x = inBase(b);
        for (int d = 0; d < 16; d++) {
            x.table(d, d < worths.length ? worths[d] : 0);
        }
        return x;
    }

    /** One figure alone is worth something. */
    static FigurePlay withOne(int b, int figure, int worth) {
        FigurePlay x = withTable(b);
        x.table(figure, worth);
        return x;
    }

    /** Every figure is worth the same. */
    static FigurePlay withSame(int b, int worth) {
        FigurePlay x = inBase(b);
        for (int d = 0; d < 16; d++) {
            x.table(d, worth);
        }
        return x;
    }

    static FigurePlay squares() {
        return withTable(10, 0, 1, 4, 9, 16, 25, 36, 49, 64, 81);
    }
}
