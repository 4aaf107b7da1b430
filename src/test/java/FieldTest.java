/** Promises 1, 2, 6 to 9 and 22: a new object, fields, their elements, logarithms, traces, norms. */
final class FieldTest {
    public static void main(String[] args) {
        aNewObject();
        fields();
        noSuchFields();
        aNewFieldBeginsAnew();
        counts();
        elements();
        logs();
        traces();
        leastPolynomials();
        Check.finish();
    }

    private static void aNewObject() {
        CharacterSums sums = new CharacterSums();
        Check.due("p", () -> sums.count(0), 2);
        Check.due("k", () -> sums.count(1), 1);
        Check.due("q", () -> sums.count(2), 2);
        Check.due("bytes", () -> sums.count(7), 0);
        Check.due("fault()", sums::fault, -1);
        Check.due("said(0)", () -> sums.said(0), -1);
        for (int i = 0; i < 8; i++) {
            int place = i;
            Check.due("of(" + place + ", 0)", () -> sums.of(place, 0), 0);
            Check.due("coefficient(" + place + ", 0)", () -> sums.coefficient(place, 0), 0);
        }
        Check.due("alike(0)", () -> sums.alike(0), 0);
        Check.due("of(0, 5)", () -> sums.of(0, 5), -1);
        Check.due("NONE", () -> CharacterSums.NONE, -1);
    }

    private static void fields() {
        CharacterSums sums = new CharacterSums();
        for (int[] known : Fields.ALL) {
            Check.due("field " + known[2], () -> sums.field(known[0], known[1]), known[2]);
            for (int i = 0; i < 7; i++) {
                int what = i;
                Check.due("count(" + i + ") of " + known[2], () -> sums.count(what), known[what]);
            }
        }
    }

    private static void noSuchFields() {
        CharacterSums sums = Check.over(3, 2);
        Check.tell(sums, 4, "z3");
        sums.let(2, 7);
        int[][] wrong = {
            {1, 1}, {0, 1}, {-2, 1}, {4, 1}, {6, 1}, {9, 1}, {25, 1}, {29, 1}, {31, 1}, {2, 0}, {2, -1}, {2, 5},
            {3, 4}, {5, 3}, {7, 2}, {23, 2}, {2, 32}, {2, 33}, {2, Integer.MAX_VALUE}, {2, Integer.MIN_VALUE},
            {Integer.MAX_VALUE, 1}, {Integer.MIN_VALUE, 1}
        };
        for (int[] one : wrong) {
            Check.due("field(" + one[0] + ", " + one[1] + ")", () -> sums.field(one[0], one[1]), -1);
        }
        Check.due("q", () -> sums.count(2), 9);
        Check.due("place 4", () -> sums.coefficient(4, 3), 1);
        Check.due("F of 2", () -> sums.let(2, 0), 7);
    }

    private static void aNewFieldBeginsAnew() {
        CharacterSums sums = Check.over(23, 1);
        Check.tell(sums, 0, "z218-1");
        Check.tell(sums, 7, "z219*5");
        sums.say(7);
        Check.tell(sums, 1, "1+");
        sums.let(22, 9);
        sums.feed(0x31202020, 0x20202020, 0x20202020, 0x20202020, 0x20202020);
        Check.due("field", () -> sums.field(23, 1), 23);
        Check.due("place 0", () -> sums.of(0, 0), 0);
        Check.due("place 7", () -> sums.of(7, 0), 0);
        Check.due("F of 22", () -> sums.let(22, 0), 0);
        Check.due("the tape stays", () -> sums.count(7), 20);
        Check.due("the fault stays", sums::fault, 2);
        Check.due("what was said stays", () -> sums.said(4), '9');
        Check.due("tell(0, 1)", () -> sums.tell(0, 1), 1);
    }

    private static void counts() {
        CharacterSums sums = new CharacterSums();
        for (int what : new int[] {-1, 8, 9, Integer.MIN_VALUE, Integer.MAX_VALUE}) {
            Check.noSuch("count(" + what + ")", () -> sums.count(what));
        }
        sums.feed(0, 0, 0, 0, 0);
        sums.feed(0, 0, 0, 0, 0);
        Check.due("bytes", () -> sums.count(7), 40);
    }

    private static void elements() {
        CharacterSums nine = Check.over(3, 2);
        Check.due("t times t is -1", () -> nine.element(2, 3, 3), 2);
        Check.due("8 and 5", () -> nine.element(0, 8, 5), 1);
        Check.due("0 less 5", () -> nine.element(1, 0, 5), 7);
        Check.due("1 by t", () -> nine.element(3, 1, 3), 6);
        Check.due("0 by 8", () -> nine.element(3, 0, 8), 0);
        Check.noSuch("by 0", () -> nine.element(3, 4, 0));
        for (int how : new int[] {-1, 4, Integer.MAX_VALUE}) {
            Check.noSuch("how " + how, () -> nine.element(how, 1, 1));
        }
        for (int x : new int[] {-1, 9, Integer.MIN_VALUE, Integer.MAX_VALUE}) {
            for (int how = 0; how < 4; how++) {
                int way = how;
                Check.noSuch("first " + x, () -> nine.element(way, x, 1));
                Check.noSuch("second " + x, () -> nine.element(way, 1, x));
            }
        }
        for (int[] known : Fields.ALL) {
            laws(Check.over(known[0], known[1]), known[2]);
        }
    }

    private static void laws(CharacterSums sums, int q) {
        for (int x = 0; x < q; x++) {
            for (int y = 0; y < q; y++) {
                int one = x;
                int other = y;
                int sum = sums.element(0, one, other);
                Check.due("sum less second", () -> sums.element(1, sum, other), one);
                Check.due("product turned", () -> sums.element(2, one, other), sums.element(2, other, one));
                if (other != 0) {
                    int product = sums.element(2, one, other);
                    Check.due("product by second", () -> sums.element(3, product, other), one);
                }
                int z = (x * 7 + y * 3 + 1) % q;
                int left = sums.element(2, z, sum);
                Check.due("z (x + y)", () -> sums.element(0, sums.element(2, z, one), sums.element(2, z, other)), left);
            }
        }
    }

    private static void logs() {
        for (int[] known : Fields.ALL) {
            CharacterSums sums = Check.over(known[0], known[1]);
            int power = 1;
            for (int n = 0; n < known[2] - 1; n++) {
                int x = power;
                Check.due("log(" + x + ") of " + known[2], () -> sums.log(x), n);
                power = sums.element(2, power, sums.count(5));
            }
            Check.noSuch("log(0)", () -> sums.log(0));
            Check.noSuch("log(q)", () -> sums.log(known[2]));
            Check.noSuch("log(-1)", () -> sums.log(-1));
        }
    }

    private static void traces() {
        CharacterSums sixteen = Check.over(2, 4);
        int[] due = {0, 0, 0, 0, 0, 0, 0, 0, 1, 1, 1, 1, 1, 1, 1, 1};
        for (int i = 0; i < 16; i++) {
            int x = i;
            Check.due("trace(" + x + ") of 16", () -> sixteen.trace(x), due[x]);
        }
        CharacterSums nine = Check.over(3, 2);
        for (int i = 0; i < 9; i++) {
            int x = i;
            Check.due("trace(" + x + ") of 9", () -> nine.trace(x), 2 * (x % 3) % 3);
        }
        CharacterSums prime = Check.over(19, 1);
        Check.due("trace(18) of 19", () -> prime.trace(18), 18);
        for (int x : new int[] {-1, 19, Integer.MIN_VALUE, Integer.MAX_VALUE}) {
            Check.noSuch("trace(" + x + ")", () -> prime.trace(x));
        }
    }

    private static void leastPolynomials() {
        CharacterSums sums = Check.over(3, 3);
        Check.due("norm of t", () -> sums.least(3, -1), 2);
        Check.due("degree of t", () -> sums.least(3, -2), 3);
        int[] due = {1, 2, 0, 1};
        for (int i = 0; i < 4; i++) {
            int at = i;
            Check.due("coefficient " + at + " of t", () -> sums.least(3, at), due[at]);
        }
        Check.noSuch("coefficient 4 of t", () -> sums.least(3, 4));
        Check.noSuch("coefficient -3", () -> sums.least(3, -3));
        Check.noSuch("coefficient least of all", () -> sums.least(3, Integer.MIN_VALUE));
        Check.due("degree of 2", () -> sums.least(2, -2), 1);
        Check.due("coefficient 0 of 2", () -> sums.least(2, 0), 1);
        Check.noSuch("coefficient 2 of 2", () -> sums.least(2, 2));
        Check.due("norm of 0", () -> sums.least(0, -1), 0);
        Check.due("degree of 0", () -> sums.least(0, -2), 1);
        Check.due("coefficient 0 of 0", () -> sums.least(0, 0), 0);
        Check.due("coefficient 1 of 0", () -> sums.least(0, 1), 1);
        for (int i : new int[] {-2, -1, 0}) {
            Check.noSuch("element 27", () -> sums.least(27, i));
            Check.noSuch("element -1", () -> sums.least(-1, i));
        }
        CharacterSums sixteen = Check.over(2, 4);
        Check.due("degree of 6 of 16", () -> sixteen.least(6, -2), 2);
        Check.due("middle of 6 of 16", () -> sixteen.least(6, 1), 1);
        Check.due("norm of 9 of 16", () -> sixteen.least(9, -1), 1);
        CharacterSums prime = Check.over(13, 1);
        Check.due("norm of 6 of 13", () -> prime.least(6, -1), 6);
        CharacterSums two = new CharacterSums();
        Check.due("norm of 1 of 2", () -> two.least(1, -1), 1);
    }
}
