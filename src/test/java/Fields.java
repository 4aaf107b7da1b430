/** All FIELDS that there are, as calls of field() tell them. */
final class Fields {
    // p, k, q, N, D, GENERATOR, ELEMENT of MODULUS.
    static final int[][] ALL = {
        {2, 1, 2, 2, 1, 1, 0}, {2, 2, 4, 6, 2, 2, 3}, {2, 3, 8, 14, 6, 2, 3}, {2, 4, 16, 30, 8, 2, 3},
        {3, 1, 3, 6, 2, 2, 0}, {3, 2, 9, 24, 8, 4, 1}, {3, 3, 27, 78, 24, 3, 7}, {5, 1, 5, 20, 8, 2, 0},
        {5, 2, 25, 120, 32, 6, 2}, {7, 1, 7, 42, 12, 3, 0}, {11, 1, 11, 110, 40, 2, 0},
        {13, 1, 13, 156, 48, 2, 0}, {17, 1, 17, 272, 128, 3, 0}, {19, 1, 19, 342, 108, 2, 0},
        {23, 1, 23, 506, 220, 5, 0}
    };

    interface Look {
        void at(CharacterSums sums, int q);
    }

    private Fields() {
    }

    /** Looks at each FIELD in an object of its own. */
    static void each(Look look) {
        for (int[] field : ALL) {
            look.at(Check.over(field[0], field[1]), field[2]);
        }
    }

    /** The greatest divisor that a and b have in common. */
    static int common(int a, int b) {
        return b == 0 ? a : common(b, a % b);
    }

    /** x to the n, by one product behind the other. */
    static int power(CharacterSums sums, int x, int n) {
        int all = 1;
        for (int i = 0; i < n; i++) {
            all = sums.element(2, all, x);
        }
        return all;
    }

    /** Numbers that are no ELEMENT, CHARACTER, .. where there are fewer than limit of them: both sides, then far off. */
    static int[] outside(int limit) {
        return new int[] {-1, limit, -2, limit + 1, limit + 32, Integer.MIN_VALUE, Integer.MAX_VALUE};
    }
}
