/** Promises 10, 11 and 27: characters, their orders, cyclotomic numbers. */
final class CharacterTest {
    public static void main(String[] args) {
        characters();
        orders();
        cyclotomicNumbers();
        Check.finish();
    }

    private static void characters() {
        CharacterSums sums = Check.over(3, 2);
        // 4 is GENERATOR, its square 6; Z is the 24th root of unity.
        Check.due("character(0, 0)", () -> sums.character(0, 0), 0);
        Check.due("character(1, 0)", () -> sums.character(1, 0), -1);
        Check.due("character(7, 0)", () -> sums.character(7, 0), -1);
        Check.due("character(0, 5)", () -> sums.character(0, 5), 0);
        Check.due("character(5, 1)", () -> sums.character(5, 1), 0);
        Check.due("character(1, 4)", () -> sums.character(1, 4), 3);
        Check.due("character(7, 4)", () -> sums.character(7, 4), 21);
        Check.due("character(4, 6)", () -> sums.character(4, 6), 0);
        Check.due("character(1, 2)", () -> sums.character(1, 2), 12);
        for (int j : new int[] {-1, 8, Integer.MIN_VALUE, Integer.MAX_VALUE}) {
            Check.noSuch("character(" + j + ", 1)", () -> sums.character(j, 1));
            Check.noSuch("order(" + j + ")", () -> sums.order(j));
        }
        for (int x : new int[] {-1, 9, Integer.MIN_VALUE, Integer.MAX_VALUE}) {
            Check.noSuch("character(1, " + x + ")", () -> sums.character(1, x));
        }
        CharacterSums two = new CharacterSums();
        Check.due("character(0, 1) of 2", () -> two.character(0, 1), 0);
        Check.noSuch("character(1, 1) of 2", () -> two.character(1, 1));
    }

    private static void orders() {
        CharacterSums sums = Check.over(13, 1);
        int[] due = {1, 12, 6, 4, 3, 12, 2, 12, 3, 4, 6, 12};
        for (int i = 0; i < 12; i++) {
            int j = i;
            Check.due("order(" + j + ") of 13", () -> sums.order(j), due[j]);
        }
        CharacterSums two = new CharacterSums();
        Check.due("order(0) of 2", () -> two.order(0), 1);
        Check.noSuch("order(1) of 2", () -> two.order(1));
    }

    private static void cyclotomicNumbers() {
        CharacterSums sums = Check.over(13, 1);
        // 13 = 4 * 3 + 1: the quadratic ones are (q - 5) / 4, then (q - 1) / 4.
        Check.due("cyclotomic(2, 0, 0) of 13", () -> sums.cyclotomic(2, 0, 0), 2);
        Check.due("cyclotomic(2, 0, 1) of 13", () -> sums.cyclotomic(2, 0, 1), 3);
        Check.due("cyclotomic(2, 1, 0) of 13", () -> sums.cyclotomic(2, 1, 0), 3);
        Check.due("cyclotomic(2, 1, 1) of 13", () -> sums.cyclotomic(2, 1, 1), 3);
        Check.due("cyclotomic(1, 0, 0) of 13", () -> sums.cyclotomic(1, 0, 0), 11);
        Check.due("cyclotomic(12, 0, 1) of 13", () -> sums.cyclotomic(12, 0, 1), 1);
        Check.due("cyclotomic(12, 6, 0) of 13", () -> sums.cyclotomic(12, 6, 0), 0);
        int[][] wrong = {
            {0, 0, 0}, {-1, 0, 0}, {5, 0, 0}, {24, 0, 0}, {2, 2, 0}, {2, 0, 2}, {2, -1, 0}, {2, 0, -1},
            {Integer.MIN_VALUE, 0, 0}, {Integer.MAX_VALUE, 0, 0}
        };
        for (int[] one : wrong) {
            Check.noSuch("cyclotomic(" + one[0] + ", " + one[1] + ", " + one[2] + ")",
                () -> sums.cyclotomic(one[0], one[1], one[2]));
        }
        CharacterSums seven = Check.over(7, 1);
        Check.due("cyclotomic(2, 0, 0) of 7", () -> seven.cyclotomic(2, 0, 0), 1);
        Check.due("cyclotomic(2, 0, 1) of 7", () -> seven.cyclotomic(2, 0, 1), 2);
        Check.due("cyclotomic(2, 1, 0) of 7", () -> seven.cyclotomic(2, 1, 0), 1);
        Check.due("cyclotomic(2, 1, 1) of 7", () -> seven.cyclotomic(2, 1, 1), 1);
        CharacterSums two = new CharacterSums();
        Check.due("cyclotomic(1, 0, 0) of 2", () -> two.cyclotomic(1, 0, 0), 0);
    }
}
