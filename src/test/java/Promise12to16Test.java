/** Sentence by sentence: coefficient, of, same, make, divide. */
final class Promise12to16Test {
    private static final int ANY = 77777;

    public static void main(String[] args) {
        Sentence.test(12, "A COEFFICIENT (0 to D - 1) of a PLACE's VALUE.", Promise12to16Test::coefficients);
        Sentence.test(12, "(there is one way alone)", Promise12to16Test::oneWay);
        Sentence.test(12, "NoSuchElementException: no such PLACE, COEFFICIENT.", Promise12to16Test::noCoefficients);
        Sentence.test(13, "0 how many COEFFICIENTS aren't 0", Promise12to16Test::howMany);
        Sentence.test(13, "1 whether it is a whole number (all but the first are 0; 1, 0)", Promise12to16Test::whole);
        Sentence.test(13, "2 whether it is its own CONJUGATE", Promise12to16Test::ownConjugate);
        Sentence.test(13, "3 how many unlike VALUES come of it by MOVING", Promise12to16Test::unlike);
        Sentence.test(13, "4 all D that come of it by MOVING (by each a once) together", Promise12to16Test::together);
        Sentence.test(13, "5 the least a from 2 on by which it is MOVED to itself", Promise12to16Test::leastMoving);
        Sentence.test(13, "(N and 1 by none: NONE)", Promise12to16Test::noMoving);
        Sentence.test(13, "NoSuchElementException: no such PLACE, another what.", Promise12to16Test::wrongWhat);
        Sentence.test(14, "Whether two PLACES have the same VALUE.", Promise12to16Test::same);
        Sentence.test(14, "NoSuchElementException: no such PLACES.", Promise12to16Test::wrongPlaces);
        Sentence.test(15, "how 0 GAUSS a, b", Promise12to16Test::gauss);
        Sentence.test(15, "1 JACOBI a, b, c", Promise12to16Test::jacobi);
        Sentence.test(15, "2 KLOOSTERMAN a, b", Promise12to16Test::kloosterman);
        Sentence.test(15, "3 PERIOD a, b", Promise12to16Test::period);
        Sentence.test(15, "4 the VALUE of PLACE a MOVED by b", Promise12to16Test::moved);
        Sentence.test(15, "5 SPECTRUM a", Promise12to16Test::spectrum);
        Sentence.test(15, "6 MELLIN a", Promise12to16Test::mellin);
        Sentence.test(15, "7 over all MOVINGS m (0 to N - 1) Z to the (m a), together (a 0 to N - 1)",
            Promise12to16Test::rootsMoved);
        Sentence.test(15, "(b, c are any where they aren't told)", Promise12to16Test::anyWhereNotTold);
        Sentence.test(15, "how many COEFFICIENTS aren't 0. -2: GREAT;", Promise12to16Test::great);
        Sentence.test(15, "NONE (ahead of that): no such PLACE, how, CHARACTER, ELEMENT, e, i, no MOVING by b",
            Promise12to16Test::aheadOfGreat);
        Sentence.test(15, "(these change nothing)", Promise12to16Test::makingNothing);
        Sentence.test(16, "A PLACE has then the VALUE of PLACE i by a whole number v", Promise12to16Test::divided);
        Sentence.test(16, "how many COEFFICIENTS aren't 0.", Promise12to16Test::dividedOverEach);
        Sentence.test(16, "NONE (nothing changes): no such PLACES, v is 0", Promise12to16Test::dividingNothing);
        Sentence.test(16, "some COEFFICIENT is no multiple of it.", Promise12to16Test::noMultiple);
        Check.finish();
    }

    private static void coefficients() {
        Fields.each((sums, q) -> {
            int d = sums.count(4);
            Check.tell(sums, 7, "1000*1000*z" + (d - 1));
            Check.due("the last of " + q, () -> sums.coefficient(7, d - 1), 1000000);
            Check.due("the first of " + q, () -> sums.coefficient(7, 0), d == 1 ? 1000000 : 0);
            Check.tell(sums, 0, "-1000*1000");
            Check.due("the first of " + q, () -> sums.coefficient(0, 0), -1000000);
        });
    }

    /** A root that is told beyond D comes out by the roots below it. */
    private static void oneWay() {
        CharacterSums five = Check.over(5, 1);
        int[] due = {-1, 0, 1, 0, -1, 0, 1, 0};
        Check.tell(five, 3, "z8");
        for (int i = 0; i < 8; i++) {
            int at = i;
            Check.due("coefficient(3, " + at + ")", () -> five.coefficient(3, at), due[at]);
        }
        Check.tell(five, 3, "z0+z4+z8+z12+z16");
        Check.due("all fifth roots of 1 are 0", () -> five.of(3, 0), 0);
        CharacterSums two = new CharacterSums();
        Check.tell(two, 3, "5+3*z1");
        Check.due("coefficient(3, 0) of 2", () -> two.coefficient(3, 0), 2);
    }

    private static void noCoefficients() {
        Fields.each((sums, q) -> {
            for (int i : Fields.outside(sums.count(4))) {
                Check.noSuch("coefficient(0, " + i + ") of " + q, () -> sums.coefficient(0, i));
            }
        });
        CharacterSums sums = Check.over(5, 1);
        for (int place : Fields.outside(8)) {
            Check.noSuch("coefficient(" + place + ", 0)", () -> sums.coefficient(place, 0));
        }
        Check.due("coefficient(0, 0)", () -> sums.coefficient(0, 0), 0);
        Check.due("coefficient(7, 7)", () -> sums.coefficient(7, 7), 0);
    }

    /** Tells a text over a FIELD and looks at one of what of() answers. */
    private static void ofIs(int p, int k, String text, int what, long due) {
        CharacterSums sums = Check.over(p, k);
        Check.tell(sums, 7, text);
        Check.due("of " + what + " of " + text + " over " + p + ", " + k, () -> sums.of(7, what), due);
    }

    private static void howMany() {
        ofIs(5, 1, "0", 0, 0);
        ofIs(5, 1, "z7", 0, 1);
        ofIs(5, 1, "1", 0, 1);
        ofIs(5, 1, "1+z1+z2+z3+z4+z5+z6+z7", 0, 8);
        ofIs(5, 1, "1-z1+z2-z3+z4-z5+z6", 0, 7);
        ofIs(2, 1, "1", 0, 1);
        ofIs(2, 1, "1+z1", 0, 0);
    }

    private static void whole() {
        ofIs(5, 1, "0", 1, 1);
        ofIs(5, 1, "1", 1, 1);
        ofIs(5, 1, "-1000*1000", 1, 1);
        ofIs(5, 1, "z1", 1, 0);
        ofIs(5, 1, "z7", 1, 0);
        ofIs(5, 1, "5+z7", 1, 0);
        ofIs(5, 1, "5+z1", 1, 0);
        ofIs(5, 1, "z10", 1, 1);
        ofIs(2, 1, "3*z1", 1, 1);
        ofIs(23, 1, "g11.1", 1, 0);
        ofIs(23, 1, "g11.1^2", 1, 1);
    }

    private static void ownConjugate() {
        ofIs(5, 1, "0", 2, 1);
        ofIs(5, 1, "7", 2, 1);
        ofIs(5, 1, "z1", 2, 0);
        ofIs(5, 1, "z1+~z1", 2, 1);
        ofIs(5, 1, "z1-~z1", 2, 0);
        ofIs(5, 1, "g2.1", 2, 1);
        ofIs(7, 1, "g3.1", 2, 0);
        ofIs(7, 1, "k1.3", 2, 1);
        ofIs(2, 1, "z1", 2, 1);
        // GREAT on the way, but only looked at.
        ofIs(5, 1, "1000*1000*(z1+z3)", 2, 0);
    }

    private static void unlike() {
        ofIs(5, 1, "0", 3, 1);
        ofIs(5, 1, "-6", 3, 1);
        ofIs(5, 1, "z1", 3, 8);
        ofIs(5, 1, "z5", 3, 2);
        ofIs(5, 1, "g2.1", 3, 2);
        ofIs(5, 1, "z4", 3, 4);
        ofIs(2, 1, "z1", 3, 1);
        ofIs(3, 1, "z1", 3, 2);
        ofIs(23, 1, "z1", 3, 220);
        ofIs(23, 1, "p11.0", 3, 11);
        ofIs(13, 1, "p3.1", 3, 3);
        ofIs(5, 1, "1000*1000*(z6+z4)", 3, 4);
    }

    private static void together() {
        ofIs(5, 1, "0", 4, 0);
        ofIs(5, 1, "1", 4, 8);
        ofIs(5, 1, "z1", 4, 0);
        ofIs(5, 1, "z2", 4, 2);
        ofIs(5, 1, "z4", 4, -2);
        ofIs(5, 1, "z4*3+z1-5", 4, -46);
        ofIs(2, 1, "z1", 4, -1);
        ofIs(2, 1, "1000*1000", 4, 1000000);
        ofIs(23, 1, "1000*1000", 4, 220000000);
        ofIs(23, 1, "-1000*1000", 4, -220000000);
        ofIs(23, 1, "1000*1000*(1+z22+z44+z66+z88+z46+z92)", 4, (220 - 4 * 10 - 2 * 22) * 1000000L);
        ofIs(5, 2, "1000*1000*z0", 4, 32000000);
    }

    private static void leastMoving() {
        ofIs(3, 1, "1", 5, 5);
        ofIs(2, 2, "0", 5, 5);
        ofIs(5, 1, "0", 5, 3);
        ofIs(5, 1, "z5", 5, 9);
        ofIs(5, 1, "z4", 5, 11);
        ofIs(5, 1, "g2.1", 5, 9);
        ofIs(5, 1, "z1+~z1", 5, 19);
        ofIs(7, 1, "g3.1", 5, 11);
        ofIs(23, 1, "z22", 5, 47);
        ofIs(3, 3, "1", 5, 5);
    }

    private static void noMoving() {
        ofIs(2, 1, "0", 5, -1);
        ofIs(2, 1, "1", 5, -1);
        ofIs(3, 1, "z1", 5, -1);
        ofIs(2, 2, "z1-4", 5, -1);
        ofIs(5, 1, "z1", 5, -1);
        ofIs(5, 1, "z7+z2", 5, -1);
        ofIs(23, 1, "g1.1", 5, -1);
    }

    private static void wrongWhat() {
        CharacterSums sums = Check.over(5, 1);
        for (int what : Fields.outside(6)) {
            Check.noSuch("of(0, " + what + ")", () -> sums.of(0, what));
        }
        for (int place : Fields.outside(8)) {
            for (int i = -1; i < 7; i++) {
                int what = i;
                Check.noSuch("of(" + place + ", " + what + ")", () -> sums.of(place, what));
            }
        }
        Check.due("of(0, 5)", () -> sums.of(0, 5), 3);
        Check.due("of(7, 0)", () -> sums.of(7, 0), 0);
    }

    private static void sameIs(CharacterSums sums, int i, int j, int due) {
        Check.due("same(" + i + ", " + j + ")", () -> sums.same(i, j) ? 1 : 0, due);
        Check.due("same(" + j + ", " + i + ")", () -> sums.same(j, i) ? 1 : 0, due);
    }

    private static void same() {
        CharacterSums sums = Check.over(5, 1);
        sameIs(sums, 0, 7, 1);
        Check.tell(sums, 0, "z8");
        Check.tell(sums, 7, "z6-z4+z2-1");
        sameIs(sums, 0, 7, 1);
        sameIs(sums, 7, 7, 1);
        sameIs(sums, 0, 1, 0);
        Check.tell(sums, 1, "z6-z4+z2-2");
        sameIs(sums, 0, 1, 0);
        Check.tell(sums, 1, "z6-z4+z2-1+z7");
        sameIs(sums, 0, 1, 0);
        Check.tell(sums, 1, "-z8");
        sameIs(sums, 0, 1, 0);
    }

    private static void wrongPlaces() {
        CharacterSums sums = Check.over(5, 1);
        for (int place : Fields.outside(8)) {
            Check.noSuch("same(" + place + ", 0)", () -> sums.same(place, 0) ? 1 : 0);
            Check.noSuch("same(7, " + place + ")", () -> sums.same(7, place) ? 1 : 0);
            Check.noSuch("same(" + place + ", " + place + ")", () -> sums.same(place, place) ? 1 : 0);
        }
    }

    /** What make() makes is what a text is worth. */
    private static void madeIs(CharacterSums sums, int how, int a, int b, int c, String text) {
        String call = "make(7, " + how + ", " + a + ", " + b + ", " + c + ")";
        int terms = Check.tell(sums, 6, text);
        Check.due(call, () -> sums.make(7, how, a, b, c), terms);
        Check.equal(call + " is " + text, Check.spoken(sums, 7), Check.spoken(sums, 6));
    }

    private static void noneMade(CharacterSums sums, int how, int a, int b, int c) {
        Check.due("make(0, " + how + ", " + a + ", " + b + ", " + c + ")", () -> sums.make(0, how, a, b, c), -1);
    }

    private static void gauss() {
        Fields.each((sums, q) -> {
            madeIs(sums, 0, 0, 0, ANY, "" + q);
            madeIs(sums, 0, 0, q - 1, ANY, "0");
            madeIs(sums, 0, q - 2, 0, ANY, q == 2 ? "2" : "0");
            madeIs(sums, 0, q - 2, q - 1, ANY, "g" + (q - 2) + "." + (q - 1));
            for (int j : Fields.outside(q - 1)) {
                noneMade(sums, 0, j, 0, 0);
                noneMade(sums, 0, j, q - 1, 0);
            }
            for (int a : Fields.outside(q)) {
                noneMade(sums, 0, 0, a, 0);
                noneMade(sums, 0, q - 2, a, 0);
            }
        });
        madeIs(Check.over(5, 1), 0, 2, 1, 0, "z4+z16-z8-z12");
        madeIs(Check.over(5, 1), 0, 1, 1, 0, "z4+z5*z8+z15*z12+z10*z16");
        madeIs(Check.over(2, 2), 0, 1, 1, 0, "2");
    }

    private static void jacobi() {
        Fields.each((sums, q) -> {
            madeIs(sums, 1, 0, 0, 0, "" + q);
            madeIs(sums, 1, 0, 0, q - 1, "" + q);
            madeIs(sums, 1, q - 2, 0, q - 1, q == 2 ? "2" : "0");
            madeIs(sums, 1, q - 2, q - 2, q - 1, "j" + (q - 2) + "." + (q - 2) + "." + (q - 1));
            for (int j : Fields.outside(q - 1)) {
                noneMade(sums, 1, j, 0, 0);
                noneMade(sums, 1, 0, j, 0);
            }
            for (int c : Fields.outside(q)) {
                noneMade(sums, 1, 0, 0, c);
                noneMade(sums, 1, q - 2, q - 2, c);
            }
        });
        madeIs(Check.over(5, 1), 1, 1, 3, 1, "1");
        madeIs(Check.over(5, 1), 1, 1, 3, 0, "-4");
        madeIs(Check.over(5, 1), 1, 1, 1, 1, "-2*z5-1");
        madeIs(Check.over(7, 1), 1, 2, 4, 0, "6");
    }

    private static void kloosterman() {
        Fields.each((sums, q) -> {
            madeIs(sums, 2, 0, 0, ANY, "" + (q - 1));
            madeIs(sums, 2, q - 1, 0, ANY, "-1");
            madeIs(sums, 2, 0, q - 1, ANY, "-1");
            madeIs(sums, 2, q - 1, q - 1, ANY, "k" + (q - 1) + "." + (q - 1));
            for (int a : Fields.outside(q)) {
                noneMade(sums, 2, a, 0, 0);
                noneMade(sums, 2, 0, a, 0);
            }
        });
        madeIs(Check.over(5, 1), 2, 1, 1, 0, "2+z8+z12");
        madeIs(Check.over(2, 2), 2, 1, 1, 0, "3");
    }

    private static void period() {
        Fields.each((sums, q) -> {
            int all = q - 1;
            madeIs(sums, 3, 1, 0, ANY, "-1");
            for (int e = 1; e <= all; e++) {
                if (all % e == 0) {
                    madeIs(sums, 3, e, 0, ANY, "p" + e + ".0");
                    madeIs(sums, 3, e, e - 1, ANY, "p" + e + "." + (e - 1));
                    for (int i : Fields.outside(e)) {
                        noneMade(sums, 3, e, i, 0);
                    }
                } else {
                    noneMade(sums, 3, e, 0, 0);
                }
            }
            for (int e : new int[] {0, -1, -all, all + 1, 2 * all, Integer.MIN_VALUE, Integer.MAX_VALUE}) {
                if (e != 1) {
                    noneMade(sums, 3, e, 0, 0);
                }
            }
        });
        madeIs(Check.over(5, 1), 3, 2, 0, 0, "z4+z16");
        madeIs(Check.over(5, 1), 3, 2, 1, 0, "z8+z12");
        madeIs(Check.over(5, 1), 3, 4, 3, 0, "z12");
    }

    private static void moved() {
        Fields.each((sums, q) -> {
            int n = sums.count(3);
            Check.tell(sums, 0, "z1");
            for (int b = -1; b <= n + 1; b++) {
                boolean moves = b >= 0 && b < n && Fields.common(b, n) == 1;
                if (moves) {
                    madeIs(sums, 4, 0, b, ANY, "z" + b);
                } else {
                    noneMade(sums, 4, 0, b, 0);
                }
            }
            noneMade(sums, 4, 0, Integer.MIN_VALUE, 0);
            noneMade(sums, 4, 0, Integer.MAX_VALUE, 0);
            for (int place : Fields.outside(8)) {
                noneMade(sums, 4, place, 1, 0);
            }
        });
        CharacterSums sums = Check.over(5, 1);
        Check.tell(sums, 7, "2*z1-z3");
        madeIs(sums, 4, 7, 3, 0, "2*z3-z9");
        Check.tell(sums, 7, "z1");
        Check.due("a PLACE MOVED onto itself", () -> sums.make(7, 4, 7, 7, 0), 1);
        Check.equal("PLACE 7", Check.spoken(sums, 7), "z7");
    }

    private static void spectrum() {
        Fields.each((sums, q) -> {
            for (int x = 0; x < q; x++) {
                sums.let(x, -99);
            }
            madeIs(sums, 5, 0, ANY, ANY, "0-" + 99 * q);
            madeIs(sums, 5, q - 1, ANY, ANY, "0");
            sums.let(0, 99);
            madeIs(sums, 5, q - 1, ANY, ANY, "198");
            for (int a : Fields.outside(q)) {
                noneMade(sums, 5, a, 0, 0);
            }
        });
        CharacterSums sums = Check.over(5, 1);
        madeIs(sums, 5, 4, 0, 0, "0");
        sums.let(2, 3);
        madeIs(sums, 5, 4, 0, 0, "3*z12");
    }

    private static void mellin() {
        Fields.each((sums, q) -> {
            for (int x = 0; x < q; x++) {
                sums.let(x, 99);
            }
            madeIs(sums, 6, 0, ANY, ANY, "" + 99 * q);
            madeIs(sums, 6, q - 2, ANY, ANY, q == 2 ? "198" : "0");
            sums.let(0, -99);
            madeIs(sums, 6, 0, ANY, ANY, "" + 99 * (q - 2));
            for (int j : Fields.outside(q - 1)) {
                noneMade(sums, 6, j, 0, 0);
            }
        });
        CharacterSums sums = Check.over(5, 1);
        sums.let(2, 3);
        sums.let(0, 50);
        madeIs(sums, 6, 3, 0, 0, "3*z15");
        madeIs(sums, 6, 0, 0, 0, "53");
    }

    private static void rootsMoved() {
        Fields.each((sums, q) -> {
            int n = sums.count(3);
            madeIs(sums, 7, 0, ANY, ANY, "" + sums.count(4));
            madeIs(sums, 7, n / 2, ANY, ANY, "0-" + sums.count(4));
            sums.make(5, 7, 1, 0, 0);
            sums.make(6, 7, n - 1, 0, 0);
            Check.due("1 and N - 1 make the same", () -> sums.same(5, 6) ? 1 : 0, 1);
            for (int a : Fields.outside(n)) {
                noneMade(sums, 7, a, 0, 0);
            }
        });
        madeIs(Check.over(5, 1), 7, 1, 0, 0, "0");
        madeIs(Check.over(5, 1), 7, 2, 0, 0, "2");
        madeIs(Check.over(5, 1), 7, 4, 0, 0, "-2");
        madeIs(Check.over(5, 1), 7, 19, 0, 0, "0");
        madeIs(Check.over(23, 1), 7, 1, 0, 0, "-1");
        madeIs(new CharacterSums(), 7, 1, 0, 0, "-1");
    }

    private static void anyWhereNotTold() {
        int[] any = {0, -1, 8, 1000, Integer.MIN_VALUE, Integer.MAX_VALUE};
        CharacterSums sums = Check.over(5, 1);
        sums.let(1, 2);
        Check.tell(sums, 1, "z1");
        for (int b : any) {
            Check.due("GAUSS, c " + b, () -> sums.make(0, 0, 0, 0, b), 1);
            Check.due("KLOOSTERMAN, c " + b, () -> sums.make(0, 2, 0, 0, b), 1);
            Check.due("PERIOD, c " + b, () -> sums.make(0, 3, 1, 0, b), 1);
            Check.due("MOVED, c " + b, () -> sums.make(0, 4, 1, 3, b), 1);
            for (int c : any) {
                Check.due("SPECTRUM, b, c " + b + ", " + c, () -> sums.make(0, 5, 0, b, c), 1);
                Check.due("MELLIN, b, c " + b + ", " + c, () -> sums.make(0, 6, 0, b, c), 1);
                Check.due("roots, b, c " + b + ", " + c, () -> sums.make(0, 7, 0, b, c), 1);
            }
        }
    }

    private static void great() {
        CharacterSums sums = Check.over(5, 1);
        Check.tell(sums, 0, "500*1000*(z6+z4)");
        Check.due("1000000 is not GREAT", () -> sums.make(1, 4, 0, 3, 0), 4);
        Check.equal("PLACE 1", Check.spoken(sums, 1), "-500000z6+500000z4-1000000z2+500000");
        Check.tell(sums, 0, "500*1000*(z6+z4)+z4");
        Check.due("1000001 is", () -> sums.make(1, 4, 0, 3, 0), -2);
        Check.tell(sums, 0, "-500*1000*(z6+z4)-z4");
        Check.due("-1000001 is", () -> sums.make(1, 4, 0, 3, 0), -2);
        Check.tell(sums, 0, "1000*1000*(z6+z4)");
        Check.due("GREAT onto itself", () -> sums.make(0, 4, 0, 3, 0), -2);
        Check.due("MOVED by 1 it isn't", () -> sums.make(2, 4, 0, 1, 0), 2);
        Check.equal("PLACE 0", Check.spoken(sums, 0), "1000000z6+1000000z4");
        Check.equal("PLACE 1", Check.spoken(sums, 1), "-500000z6+500000z4-1000000z2+500000");
    }

    private static void aheadOfGreat() {
        CharacterSums sums = Check.over(5, 1);
        Check.tell(sums, 0, "1000*1000*(z6+z4)");
        for (int place : Fields.outside(8)) {
            Check.due("make(" + place + ", 4, 0, 3, 0)", () -> sums.make(place, 4, 0, 3, 0), -1);
            Check.due("make(" + place + ", 0, 0, 0, 0)", () -> sums.make(place, 0, 0, 0, 0), -1);
        }
        for (int how : Fields.outside(8)) {
            noneMade(sums, how, 0, 3, 0);
            noneMade(sums, how, 1, 1, 1);
        }
        noneMade(sums, 4, 0, 2, 0);
        noneMade(sums, 4, 0, 23, 0);
        Check.due("make(1, 4, 0, 3, 0)", () -> sums.make(1, 4, 0, 3, 0), -2);
        Check.due("make(7, 0, 0, 0, 0)", () -> sums.make(7, 0, 0, 0, 0), 1);
        Check.due("make(0, 7, 0, 0, 0)", () -> sums.make(0, 7, 0, 0, 0), 1);
    }

    private static void makingNothing() {
        Check.changeNothing(sums -> {
            int[][] wrong = {
                {8, 0, 0, 0, 0}, {-1, 7, 0, 0, 0}, {0, 8, 0, 0, 0}, {0, -1, 0, 0, 0}, {1, 0, 4, 0, 0}, {1, 0, 0, 5, 0},
                {2, 1, 4, 0, 0}, {2, 1, 0, 4, 0}, {2, 1, 0, 0, 5}, {3, 2, 5, 0, 0}, {3, 2, 0, 5, 0}, {4, 3, 3, 0, 0},
                {4, 3, 2, 2, 0}, {5, 4, 8, 1, 0}, {5, 4, 1, 2, 0}, {6, 5, 5, 0, 0}, {6, 6, 4, 0, 0}, {7, 7, 20, 0, 0}
            };
            for (int[] one : wrong) {
                Check.due("make", () -> sums.make(one[0], one[1], one[2], one[3], one[4]), -1);
            }
        });
        CharacterSums sums = Check.laden();
        Check.tell(sums, 2, "1000*1000*(z6+z4)");
        String before = Check.state(sums);
        for (int i = 0; i < 8; i++) {
            int place = i;
            Check.due("GREAT to " + place, () -> sums.make(place, 4, 2, 3, 0), -2);
        }
        Check.equal("the state", Check.state(sums), before);
    }

    private static void dividedIs(CharacterSums sums, String text, int v, String due) {
        Check.tell(sums, 7, text);
        Check.tell(sums, 6, "z3");
        int answer = sums.divide(6, 7, v);
        Check.equal(text + " by " + v, answer < 0 ? "" + answer : Check.spoken(sums, 6), due);
        Check.due("of(6, 0)", () -> sums.of(6, 0), answer < 0 ? 1 : answer);
    }

    private static void divided() {
        CharacterSums sums = Check.over(5, 1);
        dividedIs(sums, "6*z7-4*z1+2", 1, "6z7-4z+2");
        dividedIs(sums, "6*z7-4*z1+2", -1, "-6z7+4z-2");
        dividedIs(sums, "6*z7-4*z1+2", 2, "3z7-2z+1");
        dividedIs(sums, "6*z7-4*z1+2", -2, "-3z7+2z-1");
        dividedIs(sums, "1000*1000*z7", 1000000, "z7");
        dividedIs(sums, "1000*1000*z7", -1000000, "-z7");
        dividedIs(sums, "-1000*1000*z7", -1, "1000000z7");
        dividedIs(sums, "0", Integer.MAX_VALUE, "0");
        dividedIs(sums, "0", Integer.MIN_VALUE, "0");
        dividedIs(sums, "0", -1, "0");
        Check.tell(sums, 0, "4*z1+8");
        Check.due("a PLACE by 4 onto itself", () -> sums.divide(0, 0, 4), 2);
        Check.equal("PLACE 0", Check.spoken(sums, 0), "z+2");
        Check.due("PLACE 7 to PLACE 0", () -> sums.divide(0, 7, 5), 0);
    }

    private static void dividedOverEach() {
        Fields.each((sums, q) -> {
            String last = sums.count(4) > 1 ? "+6*z" + (sums.count(4) - 1) : "";
            dividedIs(sums, "4" + last, 2, Check.tell(sums, 5, "2" + last.replace('6', '3')) < 0 ? "" : Check.spoken(sums, 5));
            dividedIs(sums, "4" + last, 4, last.isEmpty() ? "1" : "-1");
            dividedIs(sums, "3" + last, 2, "-1");
        });
    }

    private static void dividingNothing() {
        Check.changeNothing(sums -> {
            for (int place : Fields.outside(8)) {
                Check.due("divide(" + place + ", 0, 1)", () -> sums.divide(place, 0, 1), -1);
                Check.due("divide(0, " + place + ", 1)", () -> sums.divide(0, place, 1), -1);
                Check.due("divide(" + place + ", " + place + ", 0)", () -> sums.divide(place, place, 0), -1);
            }
            Check.due("divide(1, 2, 0)", () -> sums.divide(1, 2, 0), -1);
            Check.due("divide(2, 2, 0)", () -> sums.divide(2, 2, 0), -1);
            Check.due("divide(1, 2, 2)", () -> sums.divide(1, 2, 2), -1);
            Check.due("divide(2, 2, 2)", () -> sums.divide(2, 2, 2), -1);
        });
        CharacterSums sums = new CharacterSums();
        Check.due("0 by 0", () -> sums.divide(1, 0, 0), -1);
        Check.due("0 by 1", () -> sums.divide(7, 0, 1), 0);
    }

    private static void noMultiple() {
        CharacterSums sums = Check.over(5, 1);
        dividedIs(sums, "4*z7+4*z1+2", 4, "-1");
        dividedIs(sums, "2*z7+4*z1+4", 4, "-1");
        dividedIs(sums, "4*z7+2*z1+4", -4, "-1");
        dividedIs(sums, "4*z7+4*z1+4", 4, "z7+z+1");
        dividedIs(sums, "1000*1000*z7", 1000001, "-1");
        dividedIs(sums, "1000*1000*z7", 999999, "-1");
        dividedIs(sums, "1", 2, "-1");
        dividedIs(sums, "1", Integer.MAX_VALUE, "-1");
        dividedIs(sums, "-1", Integer.MIN_VALUE, "-1");
        Check.tell(sums, 0, "2*z7+4*z1+4");
        Check.due("the last is no multiple", () -> sums.divide(0, 0, 4), -1);
        Check.equal("nor is any divided", Check.spoken(sums, 0), "2z7+4z+4");
    }
}
