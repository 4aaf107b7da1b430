/** Sentence by sentence: solutions, points, rows, lifted, curve. */
final class Promise17to21Test {
    // Below 1 and above 30.
    private static final int[] NO_EXPONENTS = {0, 31, -1, 32, -30, Integer.MIN_VALUE, Integer.MAX_VALUE};

    public static void main(String[] args) {
        Sentence.test(17, "a times x to the d and b times y to the e are c together.", Promise17to21Test::solutions);
        Sentence.test(17, "NoSuchElementException: no such ELEMENTS a, b, c.", Promise17to21Test::noSolutions);
        Sentence.test(17, "IllegalArgumentException (behind that): d, e not 1 to 30.", Promise17to21Test::exponents);
        Sentence.test(18, "x to the d, y to the e and z to the f are c together.", Promise17to21Test::points);
        Sentence.test(18, "NoSuchElementException: no such ELEMENT c.", Promise17to21Test::noPoints);
        Sentence.test(18, "IllegalArgumentException (behind that): d, e, f not 1 to 30.", Promise17to21Test::pointExponents);
        Sentence.test(19, "In how many ways n ELEMENTS (1 to 6), one behind the other,", Promise17to21Test::rows);
        Sentence.test(19, "NoSuchElementException: no such ELEMENT c.", Promise17to21Test::noRows);
        Sentence.test(19, "IllegalArgumentException (behind that): n not 1 to 6, d not 1 to 30.", Promise17to21Test::rowLengths);
        Sentence.test(20, "one that is larger than this FIELD, as a FIELD would be", Promise17to21Test::lifted);
        Sentence.test(20, "s 1 or more, 4096 of them at most", Promise17to21Test::howFar);
        Sentence.test(20, "IllegalArgumentException: no such s, d or e (1 on) doesn't divide q - 1.",
            Promise17to21Test::noDivisors);
        Sentence.test(21, "y times y is x times x times x, a times x and b together.", Promise17to21Test::curves);
        Sentence.test(21, "NoSuchElementException: no such ELEMENTS.", Promise17to21Test::noCurves);
        Check.finish();
    }

    private static long counted(CharacterSums sums, int q, int a, int d, int b, int e, int c) {
        long found = 0;
        for (int x = 0; x < q; x++) {
            for (int y = 0; y < q; y++) {
                int left = sums.element(2, a, Fields.power(sums, x, d));
                int right = sums.element(2, b, Fields.power(sums, y, e));
                found += sums.element(0, left, right) == c ? 1 : 0;
            }
        }
        return found;
    }

    private static void solutions() {
        Fields.each((sums, q) -> {
            int last = q - 1;
            int[][] asked = {
                {0, 1, 0, 1, 0}, {0, 30, 0, 30, last}, {last, 1, last, 1, last}, {1, 30, last, 30, 0}, {1, 2, 1, 2, 1},
                {1, 3, last, 30, last}, {last, 30, 1, 1, 0}, {0, 1, 1, last, 1}, {1, 1, 0, 30, last}, {1, last, 1, last, 0}
            };
            for (int[] one : asked) {
                long due = counted(sums, q, one[0], one[1], one[2], one[3], one[4]);
                Check.due("solutions of " + q, () -> sums.solutions(one[0], one[1], one[2], one[3], one[4]), due);
            }
            Check.due("all pairs of " + q, () -> sums.solutions(0, 1, 0, 30, 0), q * q);
            Check.due("no pair of " + q, () -> sums.solutions(0, 30, 0, 1, last), 0);
        });
    }

    private static void noSolutions() {
        Fields.each((sums, q) -> {
            for (int x : Fields.outside(q)) {
                Check.noSuch("a " + x + " of " + q, () -> sums.solutions(x, 1, 0, 30, 0));
                Check.noSuch("b " + x + " of " + q, () -> sums.solutions(0, 1, x, 30, 0));
                Check.noSuch("c " + x + " of " + q, () -> sums.solutions(0, 1, 0, 30, x));
            }
        });
    }

    private static void exponents() {
        CharacterSums sums = Check.over(5, 1);
        for (int d : NO_EXPONENTS) {
            Check.illegal("d " + d, () -> sums.solutions(1, d, 1, 1, 0));
            Check.illegal("e " + d, () -> sums.solutions(1, 1, 1, d, 0));
            Check.illegal("d, e " + d, () -> sums.solutions(4, d, 4, d, 4));
            for (int x : Fields.outside(5)) {
                Check.noSuch("a is ahead of d", () -> sums.solutions(x, d, 1, 1, 0));
                Check.noSuch("a is ahead of e", () -> sums.solutions(x, 1, 1, d, 0));
                Check.noSuch("b is ahead of d", () -> sums.solutions(1, d, x, 1, 0));
                Check.noSuch("b is ahead of e", () -> sums.solutions(1, 1, x, d, 0));
                Check.noSuch("c is ahead of d", () -> sums.solutions(1, d, 1, 1, x));
                Check.noSuch("c is ahead of e", () -> sums.solutions(1, 1, 1, d, x));
            }
        }
        for (int d : new int[] {1, 2, 29, 30}) {
            Check.due("d " + d, () -> sums.solutions(0, d, 1, 1, 0), 5);
            Check.due("e " + d, () -> sums.solutions(1, 1, 0, d, 0), 5);
        }
    }

    private static void points() {
        Fields.each((sums, q) -> {
            int last = q - 1;
            for (int[] one : new int[][] {{1, 1, 1, 0}, {30, 30, 30, last}, {1, 30, 2, last}, {2, 3, last, 1}, {last, 1, 30, 0}}) {
                long due = 0;
                for (int z = 0; z < q; z++) {
                    int rest = sums.element(1, one[3], Fields.power(sums, z, one[2]));
                    due += sums.solutions(1, one[0], 1, one[1], rest);
                }
                long all = due;
                Check.due("points of " + q, () -> sums.points(one[0], one[1], one[2], one[3]), all);
            }
            Check.due("points(1, 1, 1, q - 1) of " + q, () -> sums.points(1, 1, 1, last), q * q);
        });
    }

    private static void noPoints() {
        Fields.each((sums, q) -> {
            for (int c : Fields.outside(q)) {
                Check.noSuch("c " + c + " of " + q, () -> sums.points(1, 30, 1, c));
            }
        });
    }

    private static void pointExponents() {
        CharacterSums sums = Check.over(5, 1);
        for (int d : NO_EXPONENTS) {
            Check.illegal("d " + d, () -> sums.points(d, 1, 1, 0));
            Check.illegal("e " + d, () -> sums.points(1, d, 1, 0));
            Check.illegal("f " + d, () -> sums.points(1, 1, d, 4));
            for (int c : Fields.outside(5)) {
                Check.noSuch("c is ahead of d", () -> sums.points(d, 1, 1, c));
                Check.noSuch("c is ahead of e", () -> sums.points(1, d, 1, c));
                Check.noSuch("c is ahead of f", () -> sums.points(1, 1, d, c));
            }
        }
        for (int d : new int[] {1, 2, 29, 30}) {
            Check.due("d " + d, () -> sums.points(d, 1, 1, 4), 25);
            Check.due("e " + d, () -> sums.points(1, d, 1, 4), 25);
            Check.due("f " + d, () -> sums.points(1, 1, d, 4), 25);
        }
    }

    private static void rows() {
        Fields.each((sums, q) -> {
            long ways = 1;
            for (int i = 1; i <= 6; i++) {
                int n = i;
                long due = ways;
                Check.due("rows(" + n + ", 1, q - 1) of " + q, () -> sums.rows(n, 1, q - 1), due);
                ways *= q;
            }
            Check.due("one of " + q, () -> sums.rows(1, 30, 1), counted(sums, q, 1, 30, 0, 1, 1) / q);
            Check.due("two of " + q, () -> sums.rows(2, 30, q - 1), sums.solutions(1, 30, 1, 30, q - 1));
            Check.due("three of " + q, () -> sums.rows(3, 29, 0), sums.points(29, 29, 29, 0));
        });
        CharacterSums large = Check.over(3, 3);
        Check.due("six of 27 are 0", () -> large.rows(6, 26, 0), 1 + 20 * 17576 + 308915776);
        CharacterSums seven = Check.over(7, 1);
        Check.due("four of 7 are 4", () -> seven.rows(4, 6, 4), 1296);
        Check.due("five of 7 are 6", () -> seven.rows(5, 30, 6), 0);
        Check.due("six of 7 are 6", () -> seven.rows(6, 30, 6), 46656);
    }

    private static void noRows() {
        Fields.each((sums, q) -> {
            for (int c : Fields.outside(q)) {
                Check.noSuch("c " + c + " of " + q, () -> sums.rows(1, 1, c));
                Check.noSuch("c " + c + " of " + q, () -> sums.rows(6, 30, c));
            }
        });
    }

    private static void rowLengths() {
        CharacterSums sums = Check.over(5, 1);
        int[] wrong = {0, 7, -1, 8, -6, Integer.MIN_VALUE, Integer.MAX_VALUE};
        for (int n : wrong) {
            Check.illegal("n " + n, () -> sums.rows(n, 1, 0));
            for (int c : Fields.outside(5)) {
                Check.noSuch("c is ahead of n", () -> sums.rows(n, 1, c));
                Check.noSuch("c is ahead of n and d", () -> sums.rows(n, 0, c));
            }
        }
        for (int d : NO_EXPONENTS) {
            Check.illegal("d " + d, () -> sums.rows(1, d, 0));
            Check.illegal("n 0, d " + d, () -> sums.rows(0, d, 0));
            for (int c : Fields.outside(5)) {
                Check.noSuch("c is ahead of d", () -> sums.rows(1, d, c));
            }
        }
        Check.due("rows(1, 1, 4)", () -> sums.rows(1, 1, 4), 1);
        Check.due("rows(1, 30, 4)", () -> sums.rows(1, 30, 4), 2);
        Check.due("rows(6, 1, 4)", () -> sums.rows(6, 1, 4), 3125);
    }

    /** By the FIELD itself, by a FIELD that is as large, and by what is known of points of curves. */
    private static void lifted() {
        Fields.each((sums, q) -> {
            for (int d = 1; d < q; d++) {
                for (int e = 1; e < q; e++) {
                    if ((q - 1) % d == 0 && (q - 1) % e == 0) {
                        int one = d;
                        int other = e;
                        Check.due("lifted(" + d + ", " + e + ", 1) of " + q, () -> sums.lifted(one, other, 1),
                            sums.solutions(1, one, 1, other, 1));
                    }
                }
            }
        });
        int[][] lifts = {{2, 1, 2, 4}, {2, 1, 3, 8}, {2, 1, 4, 16}, {3, 1, 2, 9}, {3, 1, 3, 27}, {5, 1, 2, 25}, {2, 2, 2, 16}};
        for (int[] lift : lifts) {
            CharacterSums low = Check.over(lift[0], lift[1]);
            CharacterSums high = Check.over(lift[0], lift[1] * lift[2]);
            for (int d = 1; d <= low.count(2) - 1; d++) {
                int one = d;
                if ((low.count(2) - 1) % d == 0) {
                    Check.due("lifted of " + lift[3], () -> low.lifted(one, one, lift[2]), high.solutions(1, one, 1, one, 1));
                    Check.due("lifted of " + lift[3], () -> low.lifted(one, 1, lift[2]), lift[3]);
                    Check.due("lifted of " + lift[3], () -> low.lifted(1, one, lift[2]), lift[3]);
                }
            }
        }
        CharacterSums seven = Check.over(7, 1);
        Check.due("lifted(3, 3, 4) of 7", () -> seven.lifted(3, 3, 4), 2328);
        Check.due("lifted(2, 2, 4) of 7", () -> seven.lifted(2, 2, 4), 2400);
        Check.due("lifted(2, 2, 3) of 7", () -> seven.lifted(2, 2, 3), 344);
    }

    private static void howFar() {
        Fields.each((sums, q) -> {
            int most = 0;
            for (long size = q; size <= 4096; size *= q) {
                most++;
                int s = most;
                Check.due("lifted(1, 1, " + s + ") of " + q, () -> sums.lifted(1, 1, s), size);
            }
            int all = most;
            for (int s : new int[] {0, -1, all + 1, all + 2, 16, 31, 32, 33, 64, Integer.MIN_VALUE, Integer.MAX_VALUE}) {
                Check.illegal("lifted(1, 1, " + s + ") of " + q, () -> sums.lifted(1, 1, s));
                Check.illegal("lifted(q - 1, q - 1, " + s + ") of " + q, () -> sums.lifted(q - 1, q - 1, s));
            }
            Check.due("the largest of " + q, () -> sums.lifted(q - 1, q - 1, all) > 0 ? 1 : 0, 1);
        });
        Check.due("4096 of 2", () -> new CharacterSums().lifted(1, 1, 12), 4096);
        Check.illegal("8192 of 2", () -> new CharacterSums().lifted(1, 1, 13));
        Check.due("4096 of 4", () -> Check.over(2, 2).lifted(3, 3, 6), 3966);
        Check.due("4096 of 8", () -> Check.over(2, 3).lifted(7, 7, 4), 4228);
        Check.due("4096 of 16", () -> Check.over(2, 4).lifted(3, 3, 3), 3966);
    }

    private static void noDivisors() {
        Fields.each((sums, q) -> {
            for (int i = -q; i <= 2 * q; i++) {
                int d = i;
                if (d < 1 || (q - 1) % d != 0) {
                    Check.illegal("d " + d + " of " + q, () -> sums.lifted(d, 1, 1));
                    Check.illegal("e " + d + " of " + q, () -> sums.lifted(1, d, 1));
                    Check.illegal("d, e " + d + " of " + q, () -> sums.lifted(d, d, 2));
                } else {
                    Check.due("d " + d + " of " + q, () -> sums.lifted(d, 1, 1), q);
                    Check.due("e " + d + " of " + q, () -> sums.lifted(1, d, 1), q);
                }
            }
            for (int d : new int[] {Integer.MIN_VALUE, Integer.MAX_VALUE}) {
                Check.illegal("d " + d, () -> sums.lifted(d, 1, 1));
                Check.illegal("e " + d, () -> sums.lifted(1, d, 1));
            }
        });
    }

    private static void curves() {
        Fields.each((sums, q) -> {
            for (int[] one : new int[][] {{0, 0}, {0, q - 1}, {q - 1, 0}, {q - 1, q - 1}, {1, 1}}) {
                int found = 0;
                for (int i = 0; i < q * q; i++) {
                    int x = i / q;
                    int y = i % q;
                    int line = sums.element(0, sums.element(2, one[0], x), one[1]);
                    found += sums.element(2, y, y) == sums.element(0, Fields.power(sums, x, 3), line) ? 1 : 0;
                }
                int due = found;
                Check.due("curve(" + one[0] + ", " + one[1] + ") of " + q, () -> sums.curve(one[0], one[1]), due);
            }
            Check.due("curve(0, 0) of " + q, () -> sums.curve(0, 0), q);
        });
    }

    private static void noCurves() {
        Fields.each((sums, q) -> {
            for (int x : Fields.outside(q)) {
                Check.noSuch("a " + x + " of " + q, () -> sums.curve(x, 0));
                Check.noSuch("b " + x + " of " + q, () -> sums.curve(q - 1, x));
                Check.noSuch("a, b " + x + " of " + q, () -> sums.curve(x, x));
            }
        });
    }
}
