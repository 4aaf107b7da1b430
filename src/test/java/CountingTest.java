/** Promises 17 to 21: how many solutions equations have. */
final class CountingTest {
    private static final int[] NO_EXPONENTS = {0, 31, -1, Integer.MIN_VALUE, Integer.MAX_VALUE};

    public static void main(String[] args) {
        solutions();
        points();
        rows();
        lifted();
        wrongLifted();
        curves();
        Check.finish();
    }

    private static void solutions() {
        CharacterSums seven = Check.over(7, 1);
        Check.due("x^2 + y^2 = 1", () -> seven.solutions(1, 2, 1, 2, 1), 8);
        Check.due("x^2 + y^2 = 0", () -> seven.solutions(1, 2, 1, 2, 0), 1);
        Check.due("x^3 + y^3 = 1", () -> seven.solutions(1, 3, 1, 3, 1), 6);
        Check.due("x + y = 4", () -> seven.solutions(1, 1, 1, 1, 4), 7);
        Check.due("0 = 4", () -> seven.solutions(0, 1, 0, 1, 4), 0);
        Check.due("0 = 0", () -> seven.solutions(0, 30, 0, 30, 0), 49);
        Check.due("x^30 + 6 y^30 = 0", () -> seven.solutions(1, 30, 6, 30, 0), 37);
        Check.due("x^6 + 2 y^6 = 3", () -> seven.solutions(1, 6, 2, 6, 3), 36);
        Check.due("3 x^6 = 3", () -> seven.solutions(3, 6, 0, 2, 3), 42);
        CharacterSums nine = Check.over(3, 2);
        Check.due("x^2 + y^2 = 1 of 9", () -> nine.solutions(1, 2, 1, 2, 1), 8);
        Check.due("x^4 + y^4 = t of 9", () -> nine.solutions(1, 4, 1, 4, 3), 0);
        CharacterSums two = new CharacterSums();
        Check.due("x^30 + y = 1 of 2", () -> two.solutions(1, 30, 1, 1, 1), 2);
        for (int x : new int[] {-1, 7, Integer.MIN_VALUE, Integer.MAX_VALUE}) {
            Check.noSuch("a " + x, () -> seven.solutions(x, 31, 1, 2, 1));
            Check.noSuch("b " + x, () -> seven.solutions(1, 0, x, 2, 1));
            Check.noSuch("c " + x, () -> seven.solutions(1, 2, 1, -1, x));
        }
        for (int d : NO_EXPONENTS) {
            Check.illegal("d " + d, () -> seven.solutions(1, d, 1, 2, 1));
            Check.illegal("e " + d, () -> seven.solutions(1, 2, 1, d, 1));
        }
    }

    private static void points() {
        CharacterSums seven = Check.over(7, 1);
        Check.due("x^3 + y^3 + z^3 = 0", () -> seven.points(3, 3, 3, 0), 55);
        Check.due("x^2 + y^2 + z^2 = 1", () -> seven.points(2, 2, 2, 1), 42);
        Check.due("x + y^6 + z^30 = 5", () -> seven.points(1, 6, 30, 5), 49);
        Check.due("x^6 + y^6 + z^6 = 3", () -> seven.points(6, 6, 6, 3), 216);
        CharacterSums large = Check.over(3, 3);
        Check.due("x^26 + y^13 + z^26 = 0 of 27", () -> large.points(26, 13, 26, 0), 1 + 26 * 13 * 2 + 676 * 13);
        for (int c : new int[] {-1, 7, Integer.MIN_VALUE, Integer.MAX_VALUE}) {
            Check.noSuch("c " + c, () -> seven.points(0, 31, -1, c));
        }
        for (int d : NO_EXPONENTS) {
            Check.illegal("d " + d, () -> seven.points(d, 2, 2, 0));
            Check.illegal("e " + d, () -> seven.points(2, d, 2, 0));
            Check.illegal("f " + d, () -> seven.points(2, 2, d, 0));
        }
    }

    private static void rows() {
        CharacterSums seven = Check.over(7, 1);
        Check.due("one square is 2", () -> seven.rows(1, 2, 2), 2);
        Check.due("one square is 3", () -> seven.rows(1, 2, 3), 0);
        Check.due("three cubes are 0", () -> seven.rows(3, 3, 0), 55);
        Check.due("six sixth powers are 6", () -> seven.rows(6, 6, 6), 46656);
        Check.due("four of them are 1", () -> seven.rows(4, 6, 1), 24);
        Check.due("six are 3", () -> seven.rows(6, 1, 3), 16807);
        CharacterSums large = Check.over(3, 3);
        // Of six 26th powers none, three or all six aren't 0.
        Check.due("six of 27 are 0", () -> large.rows(6, 26, 0), 1 + 20 * 17576 + 308915776);
        for (int c : new int[] {-1, 7, Integer.MIN_VALUE, Integer.MAX_VALUE}) {
            Check.noSuch("c " + c, () -> seven.rows(0, 0, c));
        }
        for (int n : new int[] {0, 7, -1, Integer.MIN_VALUE, Integer.MAX_VALUE}) {
            Check.illegal("n " + n, () -> seven.rows(n, 1, 0));
        }
        for (int d : NO_EXPONENTS) {
            Check.illegal("d " + d, () -> seven.rows(1, d, 0));
        }
    }

    private static void lifted() {
        CharacterSums seven = Check.over(7, 1);
        // The cubic of Fermat has 9 points over 7 elements, so 63, 324, 2331 above; three lie at infinity.
        int[] cubes = {6, 60, 321, 2328};
        // The conic has q + 1 points; two lie at infinity where -1 is a square.
        int[] squares = {8, 48, 344, 2400};
        for (int i = 0; i < 4; i++) {
            int s = i + 1;
            Check.due("lifted(3, 3, " + s + ")", () -> seven.lifted(3, 3, s), cubes[s - 1]);
            Check.due("lifted(2, 2, " + s + ")", () -> seven.lifted(2, 2, s), squares[s - 1]);
            Check.due("lifted(1, 6, " + s + ")", () -> seven.lifted(1, 6, s), (long) Math.pow(7, s));
            Check.due("lifted(6, 1, " + s + ")", () -> seven.lifted(6, 1, s), (long) Math.pow(7, s));
        }
        Check.due("lifted(2, 3, 1)", () -> seven.lifted(2, 3, 1), 11);
        Check.due("lifted(3, 2, 1)", () -> seven.lifted(3, 2, 1), 11);
        CharacterSums four = Check.over(2, 2);
        // 9 points over 4 elements, 81 over 64, 3969 over 4096; three lie at infinity.
        Check.due("lifted(3, 3, 1) of 4", () -> four.lifted(3, 3, 1), 6);
        Check.due("lifted(3, 3, 3) of 4", () -> four.lifted(3, 3, 3), 78);
        Check.due("lifted(3, 3, 6) of 4", () -> four.lifted(3, 3, 6), 3966);
        Check.due("the same again", () -> four.lifted(3, 3, 6), 3966);
        Check.due("and lower", () -> four.lifted(3, 3, 1), 6);
        four.field(2, 4);
        Check.due("lifted(3, 3, 3) of 16", () -> four.lifted(3, 3, 3), 3966);
        Check.due("lifted(3, 5, 1) of 16", () -> four.lifted(3, 5, 1), four.solutions(1, 3, 1, 5, 1));
    }

    private static void wrongLifted() {
        CharacterSums seven = Check.over(7, 1);
        for (int s : new int[] {0, -1, 5, 32, 64, Integer.MIN_VALUE, Integer.MAX_VALUE}) {
            Check.illegal("s " + s, () -> seven.lifted(2, 2, s));
        }
        for (int d : new int[] {0, -1, -2, 4, 5, 12, Integer.MIN_VALUE, Integer.MAX_VALUE}) {
            Check.illegal("d " + d, () -> seven.lifted(d, 2, 1));
            Check.illegal("e " + d, () -> seven.lifted(2, d, 1));
            Check.illegal("e behind 1 " + d, () -> seven.lifted(1, d, 1));
        }
        CharacterSums two = new CharacterSums();
        Check.due("lifted(1, 1, 12) of 2", () -> two.lifted(1, 1, 12), 4096);
        Check.illegal("lifted(1, 1, 13) of 2", () -> two.lifted(1, 1, 13));
        Check.illegal("lifted(2, 1, 1) of 2", () -> two.lifted(2, 1, 1));
        CharacterSums eight = Check.over(2, 3);
        Check.due("lifted(7, 7, 4) of 8", () -> eight.lifted(7, 7, 4), 4228);
        Check.illegal("lifted(7, 7, 5) of 8", () -> eight.lifted(7, 7, 5));
    }

    private static void curves() {
        CharacterSums five = Check.over(5, 1);
        Check.due("curve(0, 1) of 5", () -> five.curve(0, 1), 5);
        Check.due("curve(4, 0) of 5", () -> five.curve(4, 0), 7);
        Check.due("curve(3, 2) of 5", () -> five.curve(3, 2), 4);
        for (int x : new int[] {-1, 5, Integer.MIN_VALUE, Integer.MAX_VALUE}) {
            Check.noSuch("a " + x, () -> five.curve(x, 0));
            Check.noSuch("b " + x, () -> five.curve(0, x));
        }
        CharacterSums seven = Check.over(7, 1);
        Check.due("curve(6, 0) of 7", () -> seven.curve(6, 0), 7);
        CharacterSums sixteen = Check.over(2, 4);
        Check.due("curve(9, 7) of 16", () -> sixteen.curve(9, 7), 16);
        CharacterSums large = Check.over(23, 1);
        Check.due("curve(1, 1) of 23", () -> large.curve(1, 1), 27);
    }
}
