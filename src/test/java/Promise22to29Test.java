/** Sentence by sentence: least, let, alike, mark, differences, cyclotomic, say, said. */
final class Promise22to29Test {
    public static void main(String[] args) {
        Sentence.test(22, "NORM of an ELEMENT (i NONE)", Promise22to29Test::norms);
        Sentence.test(22, "(0 of 0)", Promise22to29Test::normOfNothing);
        Sentence.test(22, "its LEAST POLYNOMIAL's degree (i -2), coefficient i of that (0 on)",
            Promise22to29Test::leastPolynomials);
        Sentence.test(22, "NoSuchElementException: no such ELEMENT, coefficient.", Promise22to29Test::noLeast);
        Sentence.test(23, "F of an ELEMENT is v: what it was.", Promise22to29Test::letting);
        Sentence.test(23, "F is a row of whole numbers -99 to 99", Promise22to29Test::weights);
        Sentence.test(23, "NoSuchElementException: no such ELEMENT. IllegalArgumentException (behind that): v.",
            Promise22to29Test::wrongLetting);
        Sentence.test(24, "Over all ELEMENTS x, F of x times F of (x and y, together), together.", Promise22to29Test::alike);
        Sentence.test(24, "NoSuchElementException: no such ELEMENT y.", Promise22to29Test::wrongAlike);
        Sentence.test(25, "F becomes 1 of the ELEMENTS of a set (bits), 0 of all others: how many are in it.",
            Promise22to29Test::marking);
        Sentence.test(25, "NoSuchElementException: the set has others, is below 0.", Promise22to29Test::wrongMarks);
        Sentence.test(26, "(bits; x isn't y) x less y is one and the same ELEMENT, for each ELEMENT but 0 as many",
            Promise22to29Test::differences);
        Sentence.test(26, "Of how many pairs x, y of ELEMENTS of a set", Promise22to29Test::differencesOfAllSets);
        Sentence.test(26, "NONE: not as many for each.", Promise22to29Test::unevenDifferences);
        Sentence.test(26, "NoSuchElementException as for mark().", Promise22to29Test::wrongDifferences);
        Sentence.test(27, "how many x whose LOG is i MOD e there are", Promise22to29Test::cyclotomic);
        Sentence.test(27, "for which 1 + x isn't 0 and has a LOG that is j MOD e", Promise22to29Test::lessThanOne);
        Sentence.test(27, "NoSuchElementException: no such e, i, j.", Promise22to29Test::wrongCyclotomic);
        Sentence.test(28, "by COEFFICIENTS that aren't 0, from the highest on", Promise22to29Test::order);
        Sentence.test(28, "a sign (- below 0; + above 0, but not at the beginning)", Promise22to29Test::signs);
        Sentence.test(28, "its size (left out if it is 1 and a z comes)", Promise22to29Test::sizes);
        Sentence.test(28, "z and what it is Z to (of Z to the 0 no z; of Z to the 1 z alone)", Promise22to29Test::roots);
        Sentence.test(28, "0 alone is 0", Promise22to29Test::nought);
        Sentence.test(28, "how many bytes.", Promise22to29Test::longest);
        Sentence.test(28, "NoSuchElementException: no such PLACE.", Promise22to29Test::wrongSaying);
        Sentence.test(29, "Byte i of what the latest say() SAID", Promise22to29Test::latest);
        Sentence.test(29, "(as it was then, whatever came since)", Promise22to29Test::asItWas);
        Sentence.test(29, "NONE: there is none such", Promise22to29Test::noneSuch);
        Sentence.test(29, "nothing was SAID.", Promise22to29Test::neverSaid);
        Check.finish();
    }

    private static void norms() {
        Fields.each((sums, q) -> {
            int p = sums.count(0);
            for (int i = 1; i < q; i++) {
                int x = i;
                Check.due("least(" + x + ", -1) of " + q, () -> sums.least(x, -1), Fields.power(sums, x, (q - 1) / (p - 1)));
                Check.due("it is 1 to p - 1", () -> sums.least(x, -1) >= 1 && sums.least(x, -1) < p ? 1 : 0, 1);
            }
        });
    }

    private static void normOfNothing() {
        Fields.each((sums, q) -> Check.due("least(0, -1) of " + q, () -> sums.least(0, -1), 0));
    }

    /** It is 0 by the ELEMENT, its highest coefficient is 1, and its degree is that of the least field around it. */
    private static void leastPolynomials() {
        Fields.each((sums, q) -> {
            int p = sums.count(0);
            for (int i = 0; i < q; i++) {
                int x = i;
                int degree = 1;
                for (int size = p; Fields.power(sums, x, size) != x; size *= p) {
                    degree++;
                }
                int due = degree;
                Check.due("degree of " + x + " of " + q, () -> sums.least(x, -2), due);
                Check.due("highest coefficient of " + x + " of " + q, () -> sums.least(x, due), 1);
                int value = 0;
                for (int at = 0; at <= due; at++) {
                    int coefficient = sums.least(x, at);
                    Check.equal("coefficient " + at, (coefficient >= 0 && coefficient < p) + "", "true");
                    value = sums.element(0, value, sums.element(2, coefficient, Fields.power(sums, x, at)));
                }
                int all = value;
                Check.due("its value by " + x + " of " + q, () -> all, 0);
            }
        });
    }

    private static void noLeast() {
        Fields.each((sums, q) -> {
            for (int i = 0; i < q; i++) {
                int x = i;
                int degree = sums.least(x, -2);
                for (int at : new int[] {degree + 1, degree + 2, -3, -4, Integer.MIN_VALUE, Integer.MAX_VALUE}) {
                    Check.noSuch("least(" + x + ", " + at + ") of " + q, () -> sums.least(x, at));
                }
            }
            for (int x : Fields.outside(q)) {
                for (int at = -3; at < 3; at++) {
                    int asked = at;
                    Check.noSuch("least(" + x + ", " + at + ") of " + q, () -> sums.least(x, asked));
                }
            }
        });
        Check.due("a coefficient beyond 4 of 16", () -> Check.over(2, 4).least(9, 4), 1);
        Check.noSuch("coefficient 5 of 16", () -> Check.over(2, 4).least(9, 5));
    }

    private static void letting() {
        Fields.each((sums, q) -> {
            for (int i = 0; i < q; i++) {
                int x = i;
                Check.due("F of " + x + " at first", () -> sums.let(x, x + 1), 0);
            }
            for (int i = 0; i < q; i++) {
                int x = i;
                Check.due("F of " + x + " then", () -> sums.let(x, -x), x + 1);
                Check.due("F of " + x + " at last", () -> sums.let(x, 0), -x);
            }
        });
    }

    private static void weights() {
        CharacterSums sums = Check.over(5, 1);
        int was = 0;
        for (int v : new int[] {-99, 99, -98, 98, 0, 99, -99}) {
            int due = was;
            Check.due("let(4, " + v + ")", () -> sums.let(4, v), due);
            was = v;
        }
        for (int v : new int[] {-100, 100, -101, 101, Integer.MIN_VALUE, Integer.MAX_VALUE}) {
            Check.illegal("let(4, " + v + ")", () -> sums.let(4, v));
        }
        Check.due("what was refused isn't kept", () -> sums.let(4, 0), -99);
    }

    private static void wrongLetting() {
        Check.changeNothing(sums -> {
            for (int x : Fields.outside(5)) {
                Check.noSuch("let(" + x + ", 0)", () -> sums.let(x, 0));
                for (int v : new int[] {-100, 100, Integer.MIN_VALUE, Integer.MAX_VALUE}) {
                    Check.noSuch("let(" + x + ", " + v + ")", () -> sums.let(x, v));
                }
            }
            Check.illegal("let(0, 100)", () -> sums.let(0, 100));
            Check.illegal("let(4, -100)", () -> sums.let(4, -100));
        });
        Fields.each((sums, q) -> {
            for (int x : Fields.outside(q)) {
                Check.noSuch("let(" + x + ", 1) of " + q, () -> sums.let(x, 1));
            }
            Check.due("let(q - 1, 1) of " + q, () -> sums.let(q - 1, 1), 0);
        });
    }

    private static void alike() {
        Fields.each((sums, q) -> {
            for (int i = 0; i < q; i++) {
                int y = i;
                Check.due("alike(" + y + ") of nothing", () -> sums.alike(y), 0);
            }
            int[] row = new int[q];
            for (int x = 0; x < q; x++) {
                row[x] = (x * 37 + 11) % 199 - 99;
                sums.let(x, row[x]);
            }
            for (int i = 0; i < q; i++) {
                int y = i;
                int all = 0;
                for (int x = 0; x < q; x++) {
                    all += row[x] * row[sums.element(0, x, y)];
                }
                int due = all;
                Check.due("alike(" + y + ") of " + q, () -> sums.alike(y), due);
            }
        });
        CharacterSums large = Check.over(3, 3);
        for (int x = 0; x < 27; x++) {
            large.let(x, -99);
        }
        Check.due("alike(26) at the most", () -> large.alike(26), 264627);
    }

    private static void wrongAlike() {
        Fields.each((sums, q) -> {
            for (int y : Fields.outside(q)) {
                Check.noSuch("alike(" + y + ") of " + q, () -> sums.alike(y));
            }
        });
    }

    private static void marking() {
        Fields.each((sums, q) -> {
            int all = (1 << q) - 1;
            for (int set : new int[] {0, 1, 1 << q - 1, all, all - 1, all >> 1, 0x2a5a5a5 & all}) {
                sums.let(0, 50);
                sums.let(q - 1, -50);
                Check.due("mark(" + set + ") of " + q, () -> sums.mark(set), Integer.bitCount(set));
                for (int i = 0; i < q; i++) {
                    int x = i;
                    int due = set >> x & 1;
                    Check.due("F of " + x, () -> sums.let(x, due), due);
                }
            }
        });
    }

    private static int[] wrongSets(int q) {
        int all = (1 << q) - 1;
        return new int[] {all + 1, all + 2, 1 << 30, 1 << 30 | 1, -1, -2, Integer.MIN_VALUE, Integer.MIN_VALUE | 1,
            Integer.MAX_VALUE, 1 << q + 1, 1 << q | all};
    }

    private static void wrongMarks() {
        Fields.each((sums, q) -> {
            sums.let(0, 5);
            for (int set : wrongSets(q)) {
                Check.noSuch("mark(" + set + ") of " + q, () -> sums.mark(set));
            }
            Check.due("F of 0", () -> sums.let(0, 0), 5);
        });
        Check.changeNothing(sums -> {
            for (int set : wrongSets(5)) {
                Check.noSuch("mark(" + set + ")", () -> sums.mark(set));
            }
        });
    }

    private static void differences() {
        Fields.each((sums, q) -> {
            int all = (1 << q) - 1;
            Check.due("none of " + q, () -> sums.differences(0), 0);
            Check.due("0 alone of " + q, () -> sums.differences(1), 0);
            Check.due("the last alone of " + q, () -> sums.differences(1 << q - 1), 0);
            Check.due("all of " + q, () -> sums.differences(all), q);
            Check.due("all but 0 of " + q, () -> sums.differences(all - 1), q - 2);
            Check.due("all but the last of " + q, () -> sums.differences(all >> 1), q - 2);
        });
        Check.due("squares of 7", () -> Check.over(7, 1).differences(22), 1);
        Check.due("squares of 11", () -> Check.over(11, 1).differences(2 + 8 + 16 + 32 + 512), 2);
        Check.due("0, 1, 3, 9 of 13", () -> Check.over(13, 1).differences(1 + 2 + 8 + 512), 1);
        Check.due("six of 16", () -> Check.over(2, 4).differences(1 + 2 + 4 + 16 + 256 + 32768), 2);
        CharacterSums sums = Check.over(7, 1);
        sums.mark(5);
        sums.differences(22);
        Check.due("F is not touched", () -> sums.alike(0), 2);
    }

    /** How often each difference comes; -1 if not all but 0 come as often. */
    private static int counted(CharacterSums sums, int q, int set) {
        int[] seen = new int[q];
        for (int x = 0; x < q; x++) {
            for (int y = 0; y < q; y++) {
                boolean both = (set >> x & 1) == 1 && (set >> y & 1) == 1;
                seen[sums.element(1, x, y)] += both && x != y ? 1 : 0;
            }
        }
        for (int x = 1; x < q; x++) {
            if (seen[x] != seen[1]) {
                return -1;
            }
        }
        return seen[1];
    }

    /** All sets of a small FIELD, all sets of two ELEMENTS and all but two of a larger one. */
    private static void differencesOfAllSets() {
        Fields.each((sums, q) -> {
            for (int i = 0; i < 1 << q && q < 10; i++) {
                int set = i;
                Check.due("differences(" + set + ") of " + q, () -> sums.differences(set), counted(sums, q, set));
            }
            for (int i = 0; i < q * q && q > 10; i += 7) {
                int two = 1 << i / q | 1 << i % q;
                int others = (1 << q) - 1 - two;
                Check.due("differences(" + two + ") of " + q, () -> sums.differences(two), counted(sums, q, two));
                Check.due("differences(" + others + ") of " + q, () -> sums.differences(others), counted(sums, q, others));
            }
        });
    }

    private static void unevenDifferences() {
        Check.due("0, 1 of 5", () -> Check.over(5, 1).differences(3), -1);
        Check.due("0, 1 of 4", () -> Check.over(2, 2).differences(3), -1);
        Check.due("0, 1 of 3", () -> Check.over(3, 1).differences(3), 1);
        Check.due("0, 1 of 2", () -> new CharacterSums().differences(3), 2);
        Check.due("squares of 13", () -> Check.over(13, 1).differences(2 + 8 + 16 + 512 + 1024 + 4096), -1);
        Check.due("0, 1, 3, 8 of 13", () -> Check.over(13, 1).differences(1 + 2 + 8 + 256), -1);
        // Each difference of the prime field comes three times, no other comes at all.
        Check.due("0, 1, 2 of 9", () -> Check.over(3, 2).differences(7), -1);
        Check.due("0, 1, 2, 3 of 9", () -> Check.over(3, 2).differences(15), -1);
        // Only the last ELEMENT's differences are too few.
        Check.due("0, 1, 2, 4 of 8", () -> Check.over(2, 3).differences(1 + 2 + 4 + 16), -1);
    }

    private static void wrongDifferences() {
        Fields.each((sums, q) -> {
            for (int set : wrongSets(q)) {
                Check.noSuch("differences(" + set + ") of " + q, () -> sums.differences(set));
            }
        });
    }

    private static void cyclotomic() {
        Fields.each((sums, q) -> {
            for (int e = 1; e < q; e++) {
                for (int i = 0; i < e * e && (q - 1) % e == 0; i++) {
                    int parts = e;
                    int first = i / e;
                    int second = i % e;
                    int found = 0;
                    for (int x = 1; x < q; x++) {
                        int next = sums.element(0, 1, x);
                        boolean counts = sums.log(x) % e == first && next != 0 && sums.log(next) % e == second;
                        found += counts ? 1 : 0;
                    }
                    int due = found;
                    Check.due("cyclotomic(" + e + ", " + first + ", " + second + ") of " + q,
                        () -> sums.cyclotomic(parts, first, second), due);
                }
            }
        });
    }

    /** Of q - 1 ELEMENTS that aren't 0 just one is less than 0 by 1. */
    private static void lessThanOne() {
        Fields.each((sums, q) -> {
            Check.due("cyclotomic(1, 0, 0) of " + q, () -> sums.cyclotomic(1, 0, 0), q - 2);
            int less = sums.element(1, 0, 1);
            for (int j = 0; j < q - 1; j++) {
                int second = j;
                Check.due("of -1 none", () -> sums.cyclotomic(q - 1, sums.log(less), second), 0);
            }
        });
    }

    private static void wrongCyclotomic() {
        Fields.each((sums, q) -> {
            for (int i = -q; i <= 2 * q; i++) {
                int e = i;
                if (e < 1 || (q - 1) % e != 0) {
                    Check.noSuch("e " + e + " of " + q, () -> sums.cyclotomic(e, 0, 0));
                } else {
                    Check.due("e " + e + " of " + q, () -> sums.cyclotomic(e, e - 1, e - 1) >= 0 ? 1 : 0, 1);
                    for (int one : Fields.outside(e)) {
                        Check.noSuch("i " + one + " of " + e, () -> sums.cyclotomic(e, one, 0));
                        Check.noSuch("j " + one + " of " + e, () -> sums.cyclotomic(e, 0, one));
                    }
                }
            }
            for (int e : new int[] {Integer.MIN_VALUE, Integer.MAX_VALUE}) {
                Check.noSuch("e " + e, () -> sums.cyclotomic(e, 0, 0));
            }
        });
    }

    private static void order() {
        CharacterSums sums = Check.over(23, 1);
        Check.value(sums, "1+z1+z2+z9+z10+z99+z100+z219", "z219+z100+z99+z10+z9+z2+z+1");
        Check.value(sums, "1-z219", "-z219+1");
        Check.value(sums, "2*z4-2*z4+z3", "z3");
    }

    private static void signs() {
        CharacterSums sums = Check.over(5, 1);
        Check.value(sums, "z3+z2", "z3+z2");
        Check.value(sums, "z3-z2", "z3-z2");
        Check.value(sums, "0-z3+z2", "-z3+z2");
        Check.value(sums, "0-z3-z2-1", "-z3-z2-1");
        Check.value(sums, "5", "5");
        Check.value(sums, "-5", "-5");
        Check.value(sums, "z7+5", "z7+5");
    }

    private static void sizes() {
        CharacterSums sums = Check.over(5, 1);
        Check.value(sums, "1", "1");
        Check.value(sums, "-1", "-1");
        Check.value(sums, "z1", "z");
        Check.value(sums, "-z1", "-z");
        Check.value(sums, "z7", "z7");
        Check.value(sums, "2*z7-2*z1+2", "2z7-2z+2");
        Check.value(sums, "10*z7-11*z1+12", "10z7-11z+12");
        Check.value(sums, "z7+z1+1", "z7+z+1");
        Check.value(sums, "9*z3", "9z3");
        Check.value(sums, "999*1001*z3+100*z2", "999999z3+100z2");
        Check.value(sums, "1000*1000*z3-1000*1000", "1000000z3-1000000");
        Check.value(sums, "1001*z1-1010", "1001z-1010");
    }

    private static void roots() {
        CharacterSums sums = Check.over(23, 1);
        for (int i = 2; i < 220; i++) {
            Check.value(sums, "3*z" + i, "3z" + i);
        }
        Check.value(sums, "3*z1", "3z");
        Check.value(sums, "3*z0", "3");
        Check.value(sums, "z0", "1");
    }

    private static void nought() {
        Fields.each((sums, q) -> {
            Check.due("say(0) of " + q, () -> sums.say(0), 1);
            Check.due("said(0)", () -> sums.said(0), '0');
            Check.due("said(1)", () -> sums.said(1), -1);
        });
        CharacterSums sums = Check.over(5, 1);
        Check.value(sums, "z1-z1", "0");
        Check.value(sums, "z1+0", "z");
        Check.value(sums, "10", "10");
    }

    /** No VALUE has more bytes than that of which all 220 COEFFICIENTS are -1000000. */
    private static void longest() {
        CharacterSums sums = Check.over(23, 1);
        Check.tell(sums, 1, "(1+z1)*(1+z2+z4+z6+z8)");
        Check.tell(sums, 2, "#1*(1+z10+z20+z30+z40+z50+z60+z70+z80+z90+z100)*(1+z110)*-1000*1000");
        StringBuilder due = new StringBuilder();
        for (int i = 219; i >= 0; i--) {
            due.append("-1000000").append(i > 0 ? "z" : "").append(i > 1 ? i : "");
        }
        Check.due("bytes", () -> sums.say(2), due.length());
        Check.equal("all that is SAID", Check.spoken(sums, 2), due.toString());
        Check.due("none behind the last", () -> sums.said(due.length()), -1);
        Check.due("bytes of -z219+z", () -> Check.tell(sums, 0, "z1-z219") == 2 ? sums.say(0) : -1, 7);
    }

    private static void wrongSaying() {
        Check.changeNothing(sums -> {
            for (int place : Fields.outside(8)) {
                Check.noSuch("say(" + place + ")", () -> sums.say(place));
            }
        });
        CharacterSums sums = Check.over(5, 1);
        Check.due("say(0)", () -> sums.say(0), 1);
        Check.due("say(7)", () -> sums.say(7), 1);
    }

    private static void latest() {
        CharacterSums sums = Check.over(5, 1);
        Check.tell(sums, 0, "12*z7-345");
        Check.tell(sums, 7, "z1");
        sums.say(7);
        sums.say(0);
        String due = "12z7-345";
        for (int i = 0; i < due.length(); i++) {
            int at = i;
            Check.due("said(" + at + ")", () -> sums.said(at), due.charAt(at));
        }
        sums.say(7);
        Check.due("said(0)", () -> sums.said(0), 'z');
        Check.due("said(1)", () -> sums.said(1), -1);
    }

    private static void asItWas() {
        CharacterSums sums = Check.over(5, 1);
        Check.tell(sums, 0, "12*z7-345");
        sums.say(0);
        Check.tell(sums, 0, "4");
        sums.make(0, 0, 0, 0, 0);
        sums.divide(0, 1, 1);
        Check.noSuch("say(8)", () -> sums.say(8));
        Check.noSuch("say(-1)", () -> sums.say(-1));
        sums.field(2, 1);
        Check.tell(sums, 0, "1+");
        String due = "12z7-345";
        for (int i = 0; i < due.length(); i++) {
            int at = i;
            Check.due("said(" + at + ")", () -> sums.said(at), due.charAt(at));
        }
        Check.due("said(8)", () -> sums.said(8), -1);
    }

    private static void noneSuch() {
        CharacterSums sums = Check.over(5, 1);
        Check.tell(sums, 0, "12*z7-345");
        sums.say(0);
        Check.due("said(7)", () -> sums.said(7), '5');
        for (int i : Fields.outside(8)) {
            Check.due("said(" + i + ")", () -> sums.said(i), -1);
        }
        sums.say(1);
        for (int i : Fields.outside(1)) {
            Check.due("said(" + i + ") of 0", () -> sums.said(i), -1);
        }
    }

    private static void neverSaid() {
        CharacterSums sums = new CharacterSums();
        for (int i : new int[] {0, 1, -1, Integer.MIN_VALUE, Integer.MAX_VALUE}) {
            Check.due("said(" + i + ")", () -> sums.said(i), -1);
        }
        Check.noSuch("say(8)", () -> sums.say(8));
        Check.due("a refused say() SAID nothing", () -> sums.said(0), -1);
    }
}
