/** Promises 23 to 26: F, and sets of elements. */
final class RowTest {
    public static void main(String[] args) {
        letting();
        likeness();
        marking();
        differences();
        wrongSets();
        Check.finish();
    }

    private static void letting() {
        CharacterSums sums = Check.over(3, 2);
        Check.due("let(8, 99)", () -> sums.let(8, 99), 0);
        Check.due("let(8, -99)", () -> sums.let(8, -99), 99);
        Check.due("let(0, 5)", () -> sums.let(0, 5), 0);
        for (int v : new int[] {100, -100, Integer.MIN_VALUE, Integer.MAX_VALUE}) {
            Check.illegal("let(8, " + v + ")", () -> sums.let(8, v));
        }
        for (int x : new int[] {-1, 9, Integer.MIN_VALUE, Integer.MAX_VALUE}) {
            Check.noSuch("let(" + x + ", 1)", () -> sums.let(x, 1));
            Check.noSuch("let(" + x + ", 100)", () -> sums.let(x, 100));
        }
        Check.due("let(8, 0)", () -> sums.let(8, 0), -99);
        Check.due("let(0, 0)", () -> sums.let(0, 0), 5);
    }

    private static void likeness() {
        CharacterSums sums = Check.over(3, 2);
        sums.let(0, 2);
        sums.let(1, -3);
        sums.let(5, 7);
        Check.due("alike(0)", () -> sums.alike(0), 62);
        Check.due("alike(1)", () -> sums.alike(1), -6);
        Check.due("alike(2)", () -> sums.alike(2), -6);
        Check.due("alike(5)", () -> sums.alike(5), 14);
        Check.due("alike(4)", () -> sums.alike(4), -21);
        Check.due("alike(3)", () -> sums.alike(3), 0);
        for (int y : new int[] {-1, 9, Integer.MIN_VALUE, Integer.MAX_VALUE}) {
            Check.noSuch("alike(" + y + ")", () -> sums.alike(y));
        }
        CharacterSums large = Check.over(3, 3);
        for (int x = 0; x < 27; x++) {
            large.let(x, -99);
        }
        Check.due("alike(26)", () -> large.alike(26), 27 * 99 * 99);
    }

    private static void marking() {
        CharacterSums sums = Check.over(7, 1);
        sums.let(0, 50);
        sums.let(1, 50);
        Check.due("mark(22)", () -> sums.mark(22), 3);
        int[] due = {0, 1, 1, 0, 1, 0, 0};
        for (int i = 0; i < 7; i++) {
            int x = i;
            Check.due("F of " + x, () -> sums.let(x, 0), due[x]);
        }
        Check.due("mark(127)", () -> sums.mark(127), 7);
        Check.due("alike(3)", () -> sums.alike(3), 7);
        Check.due("mark(0)", () -> sums.mark(0), 0);
        Check.due("alike(0)", () -> sums.alike(0), 0);
        CharacterSums large = Check.over(3, 3);
        Check.due("mark of all 27", () -> large.mark((1 << 27) - 1), 27);
    }

    private static void differences() {
        CharacterSums seven = Check.over(7, 1);
        Check.due("the plane of seven points", () -> seven.differences(22), 1);
        Check.due("its complement", () -> seven.differences(127 - 22), 2);
        Check.due("one element", () -> seven.differences(8), 0);
        Check.due("none", () -> seven.differences(0), 0);
        Check.due("two elements", () -> seven.differences(3), -1);
        Check.due("all", () -> seven.differences(127), 7);
        seven.mark(3);
        seven.differences(22);
        Check.due("F stays", () -> seven.alike(0), 2);
        CharacterSums thirteen = Check.over(13, 1);
        Check.due("0, 1, 3, 9 of 13", () -> thirteen.differences(1 + 2 + 8 + 512), 1);
        Check.due("0, 1, 3, 8 of 13", () -> thirteen.differences(1 + 2 + 8 + 256), -1);
        CharacterSums eleven = Check.over(11, 1);
        Check.due("squares of 11", () -> eleven.differences(2 + 8 + 16 + 32 + 512), 2);
        CharacterSums sixteen = Check.over(2, 4);
        Check.due("0, 1, 2, 4, 8, 15 of 16", () -> sixteen.differences(1 + 2 + 4 + 16 + 256 + 32768), 2);
        CharacterSums two = new CharacterSums();
        Check.due("both of 2", () -> two.differences(3), 2);
        Check.due("one of 2", () -> two.differences(2), 0);
    }

    private static void wrongSets() {
        CharacterSums sums = Check.over(7, 1);
        sums.let(3, 4);
        for (int set : new int[] {128, 129, 1 << 30, -1, Integer.MIN_VALUE, Integer.MAX_VALUE}) {
            Check.noSuch("mark(" + set + ")", () -> sums.mark(set));
            Check.noSuch("differences(" + set + ")", () -> sums.differences(set));
        }
        Check.due("F stays", () -> sums.let(3, 0), 4);
        CharacterSums large = Check.over(3, 3);
        Check.noSuch("mark(1 << 27)", () -> large.mark(1 << 27));
        Check.noSuch("differences(1 << 27)", () -> large.differences(1 << 27));
    }
}
