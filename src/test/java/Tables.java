/** Tables for base 16 whose chains by SUM come near to being lost. */
final class Tables {
    /** A round of just 300 numbers, 19998 the least; 0 comes to it behind 7 others. */
    static final int[] ROUND_300 = {65525, 0, 19830, 76726, 12826, 91173, 78020, 95339, 6007, 29172, 54904, 6220,
        44626, 1764, 18652, 9539};
    /** A round of 301 numbers, 6972 the least. */
    static final int[] ROUND_301 = {72884, 0, 45940, 4319, 1703, 26807, 73864, 950, 41643, 64888, 27957, 86151, 7208,
        76424, 85804, 78802};
    /** From 0 a tail of 191 and a round of 109, whose least number is 16358; 1 becomes 0. */
    static final int[] TOLD_300 = {95785, 0, 14652, 853, 97802, 39560, 41969, 26174, 5117, 34866, 98881, 759, 44135,
        12681, 95935, 57678};
    /** From 0 a tail of 39 ahead of a round of 262, whose least number is 25359; 1 becomes 0. */
    static final int[] TOLD_301 = {78778, 0, 69222, 96297, 62393, 76936, 3279, 90642, 885, 84069, 63519, 40514, 12805,
        88102, 2998, 91025};

    private Tables() {
    }
}
