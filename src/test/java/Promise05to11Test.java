/** Sentence by sentence: fault, count, element, log, trace, character, order. */
final class Promise05to11Test {
    public static void main(String[] args) {
        Sentence.test(5, "The place of the latest tell()'s FAULT", Promise05to11Test::latestFault);
        Sentence.test(5, "(that was no IllegalArgumentException)", Promise05to11Test::notThrown);
        Sentence.test(5, "NONE: it had none", Promise05to11Test::hadNone);
        Sentence.test(5, "or there was none.", Promise05to11Test::neverTold);
        Sentence.test(6, "0 p, 1 k, 2 q, 3 N, 4 D, 5 GENERATOR, 6 the ELEMENT of MODULUS", Promise05to11Test::counts);
        Sentence.test(6, "(of such ones that with the least ELEMENT; of k 1: t)", Promise05to11Test::leastModulus);
        Sentence.test(6, "GENERATOR: the least ELEMENT whose POWERS are all but 0", Promise05to11Test::leastGenerator);
        Sentence.test(6, "D: how many of 1 to N have no divisor in common with N but 1", Promise05to11Test::dOfN);
        Sentence.test(6, "7 bytes of the tape", Promise05to11Test::bytes);
        Sentence.test(6, "NoSuchElementException: another what", Promise05to11Test::anotherWhat);
        Sentence.test(7, "They are added digit by digit MOD p", Promise05to11Test::digits);
        Sentence.test(7, "1 the first less the second", Promise05to11Test::less);
        Sentence.test(7, "multiplied as polynomials MOD p and MODULUS", Promise05to11Test::products);
        Sentence.test(7, "3 by (the second not 0)", Promise05to11Test::quotients);
        Sentence.test(7, "NoSuchElementException: no such ELEMENTS, another how", Promise05to11Test::wrongElements);
        Sentence.test(8, "the least n (0 on) by which it is GENERATOR to the n", Promise05to11Test::logs);
        Sentence.test(8, "NoSuchElementException: no such one, 0.", Promise05to11Test::noLogs);
        Sentence.test(9, "it, its p-th POWER, that one's, .. (k of them) together: 0 to p - 1", Promise05to11Test::traces);
        Sentence.test(9, "NoSuchElementException: no such one.", Promise05to11Test::noTraces);
        Sentence.test(10, "to what Z is (0 to N - 1)", Promise05to11Test::characters);
        Sentence.test(10, "of 0 it is 0, but that of number 0: 1", Promise05to11Test::charactersOfNothing);
        Sentence.test(10, "NONE: it is 0", Promise05to11Test::noneIsNought);
        Sentence.test(10, "NoSuchElementException: no such CHARACTER, ELEMENT", Promise05to11Test::noCharacters);
        Sentence.test(11, "the least n (1 on) by which all POWERS n of what it is of ELEMENTS (but 0) are 1",
            Promise05to11Test::orders);
        Sentence.test(11, "NoSuchElementException: no such CHARACTER", Promise05to11Test::noOrders);
        Check.finish();
    }

    private static void latestFault() {
        CharacterSums sums = Check.over(5, 1);
        Check.faulty(sums, "", 1, 0);
        Check.faulty(sums, "12?", 1, 2);
        Check.faulty(sums, "z20", 2, 1);
        Check.faulty(sums, "1+(((((((", 3, 8);
        Check.faulty(sums, " ".repeat(200), 1, 200);
        sums.field(7, 1);
        sums.feed(0, 0, 0, 0, 0);
        sums.make(0, 0, 0, 0, 0);
        sums.say(0);
        Check.due("other calls leave it", sums::fault, 200);
        Check.due("once more", sums::fault, 200);
    }

    private static void notThrown() {
        CharacterSums sums = Check.over(5, 1);
        Check.faulty(sums, "1+2?", 1, 3);
        Check.illegal("tell(-1, 0)", () -> sums.tell(-1, 0));
        Check.illegal("tell(8, 0)", () -> sums.tell(8, 0));
        Check.illegal("tell(0, -1)", () -> sums.tell(0, -1));
        Check.illegal("tell(0, 1)", () -> sums.tell(0, 1));
        Check.due("fault()", sums::fault, 3);
        Check.value(sums, "1", "1");
        Check.illegal("tell(8, 0)", () -> sums.tell(8, 0));
        Check.due("fault()", sums::fault, -1);
    }

    private static void hadNone() {
        CharacterSums sums = Check.over(5, 1);
        Check.faulty(sums, "1+2?", 1, 3);
        Check.value(sums, "1", "1");
        Check.due("fault()", sums::fault, -1);
        Check.faulty(sums, "1+2?", 1, 3);
        Check.value(sums, "9999*9999", "-2");
        Check.due("GREAT is no FAULT", sums::fault, -1);
    }

    private static void neverTold() {
        CharacterSums sums = new CharacterSums();
        Check.due("fault()", sums::fault, -1);
        Check.illegal("tell(0, 1)", () -> sums.tell(0, 1));
        Check.illegal("tell(9, 0)", () -> sums.tell(9, 0));
        sums.field(5, 1);
        Check.due("fault()", sums::fault, -1);
    }

    private static void counts() {
        CharacterSums sums = new CharacterSums();
        for (int[] field : Fields.ALL) {
            Check.due("field", () -> sums.field(field[0], field[1]), field[2]);
            for (int i = 0; i < 7; i++) {
                int what = i;
                Check.due("count(" + what + ") of " + field[2], () -> sums.count(what), field[what]);
            }
        }
    }

    /** The polynomial t^k + an ELEMENT, as a number to the base p, is a product just if some monic one divides it. */
    private static void leastModulus() {
        for (int[] field : Fields.ALL) {
            CharacterSums sums = Check.over(field[0], field[1]);
            int least = 0;
            while (field[1] > 1 && isProduct(field[2] + least, field[0], field[1])) {
                least++;
            }
            int due = least;
            Check.due("MODULUS of " + field[2], () -> sums.count(6), due);
        }
    }

    private static boolean isProduct(int polynomial, int p, int degree) {
        int unit = p;
        for (int lower = 1; 2 * lower <= degree; lower++) {
            for (int divisor = unit; divisor < 2 * unit; divisor++) {
                if (rest(polynomial, divisor, p, degree, lower) == 0) {
                    return true;
                }
            }
            unit *= p;
        }
        return false;
    }

    private static int rest(int polynomial, int divisor, int p, int degree, int lower) {
        int[] digits = new int[degree + 1];
        for (int i = 0, left = polynomial; i <= degree; i++, left /= p) {
            digits[i] = left % p;
        }
        for (int i = degree; i >= lower; i--) {
            int times = digits[i];
            for (int j = 0, left = divisor; j <= lower; j++, left /= p) {
                digits[i - lower + j] = Math.floorMod(digits[i - lower + j] - times * (left % p), p);
            }
        }
        int all = 0;
        for (int digit : digits) {
            all += digit;
        }
        return all;
    }

    private static int powersOf(CharacterSums sums, int x, int q) {
        int found = 1;
        for (int power = x; power != 1 && found < q; power = sums.element(2, power, x)) {
            found++;
        }
        return found;
    }

    private static void leastGenerator() {
        Fields.each((sums, q) -> {
            int least = 1;
            while (powersOf(sums, least, q) != q - 1) {
                least++;
            }
            int due = least;
            Check.due("GENERATOR of " + q, () -> sums.count(5), due);
        });
        Check.due("GENERATOR of 2", () -> new CharacterSums().count(5), 1);
    }

    private static void dOfN() {
        Fields.each((sums, q) -> {
            int n = sums.count(3);
            int found = 0;
            for (int a = 1; a <= n; a++) {
                found += Fields.common(a, n) == 1 ? 1 : 0;
            }
            int due = found;
            Check.due("N of " + q, () -> n, sums.count(0) * (q - 1));
            Check.due("D of " + q, () -> sums.count(4), due);
        });
    }

    private static void bytes() {
        CharacterSums sums = new CharacterSums();
        for (int i = 0; i <= 12; i++) {
            int due = Math.min(20 * i, 200);
            Check.due("count(7)", () -> sums.count(7), due);
            sums.feed(1, 2, 3, 4, 5);
        }
        sums.tell(0, 3);
        Check.due("count(7)", () -> sums.count(7), 0);
    }

    private static void anotherWhat() {
        CharacterSums sums = Check.over(5, 1);
        for (int what : Fields.outside(8)) {
            Check.noSuch("count(" + what + ")", () -> sums.count(what));
        }
        Check.due("count(0)", () -> sums.count(0), 5);
        Check.due("count(7)", () -> sums.count(7), 0);
    }

    private static void digits() {
        Fields.each((sums, q) -> {
            int p = sums.count(0);
            for (int i = 0; i < q * q; i++) {
                int x = i / q;
                int y = i % q;
                int sum = 0;
                for (int unit = 1; unit < q; unit *= p) {
                    sum += (x / unit % p + y / unit % p) % p * unit;
                }
                int due = sum;
                Check.due(x + " and " + y + " of " + q, () -> sums.element(0, x, y), due);
            }
        });
    }

    private static void less() {
        Fields.each((sums, q) -> {
            for (int i = 0; i < q * q; i++) {
                int x = i / q;
                int y = i % q;
                Check.due("what is less and " + y, () -> sums.element(0, sums.element(1, x, y), y), x);
            }
        });
        CharacterSums nine = Check.over(3, 2);
        Check.due("0 less 8", () -> nine.element(1, 0, 8), 4);
        Check.due("0 less 0", () -> nine.element(1, 0, 0), 0);
        Check.due("8 less 8", () -> nine.element(1, 8, 8), 0);
    }

    private static void products() {
        Fields.each((sums, q) -> {
            for (int i = 0; i < q; i++) {
                int x = i;
                Check.due(x + " times 0", () -> sums.element(2, x, 0), 0);
                Check.due("0 times " + x, () -> sums.element(2, 0, x), 0);
                Check.due(x + " times 1", () -> sums.element(2, x, 1), x);
                Check.due("1 times " + x, () -> sums.element(2, 1, x), x);
            }
        });
        CharacterSums large = Check.over(23, 1);
        Check.due("22 times 22", () -> large.element(2, 22, 22), 1);
        CharacterSums nine = Check.over(3, 2);
        Check.due("t times t is less than 1", () -> nine.element(2, 3, 3), 2);
        Check.due("8 times 8", () -> nine.element(2, 8, 8), 6);
        CharacterSums sixteen = Check.over(2, 4);
        Check.due("t^3 times t", () -> sixteen.element(2, 8, 2), 3);
        Check.due("15 times 15", () -> sixteen.element(2, 15, 15), 10);
        CharacterSums more = Check.over(3, 3);
        Check.due("t^2 times t", () -> more.element(2, 9, 3), 5);
        CharacterSums most = Check.over(5, 2);
        Check.due("t times t", () -> most.element(2, 5, 5), 3);
    }

    private static void quotients() {
        Fields.each((sums, q) -> {
            for (int i = 0; i < q * q; i++) {
                int x = i / q;
                int y = i % q;
                if (y == 0) {
                    Check.noSuch(x + " by 0", () -> sums.element(3, x, 0));
                } else {
                    Check.due("what is by, times " + y, () -> sums.element(2, sums.element(3, x, y), y), x);
                }
            }
        });
    }

    private static void wrongElements() {
        Fields.each((sums, q) -> {
            for (int how = 0; how < 4; how++) {
                int way = how;
                for (int x : Fields.outside(q)) {
                    Check.noSuch("element(" + way + ", " + x + ", 1)", () -> sums.element(way, x, 1));
                    Check.noSuch("element(" + way + ", 1, " + x + ")", () -> sums.element(way, 1, x));
                    Check.noSuch("element(" + way + ", 0, " + x + ")", () -> sums.element(way, 0, x));
                }
                Check.due("the greatest", () -> sums.element(way, q - 1, q - 1) < q ? 1 : 0, 1);
            }
            for (int how : Fields.outside(4)) {
                Check.noSuch("element(" + how + ", 1, 1)", () -> sums.element(how, 1, 1));
            }
        });
    }

    private static void logs() {
        Fields.each((sums, q) -> {
            int power = 1;
            for (int n = 0; n < q - 1; n++) {
                int x = power;
                Check.due("log(" + x + ") of " + q, () -> sums.log(x), n);
                power = sums.element(2, power, sums.count(5));
            }
            Check.due("log(1) of " + q, () -> sums.log(1), 0);
        });
    }

    private static void noLogs() {
        Fields.each((sums, q) -> {
            Check.noSuch("log(0) of " + q, () -> sums.log(0));
            for (int x : Fields.outside(q)) {
                Check.noSuch("log(" + x + ") of " + q, () -> sums.log(x));
            }
            Check.due("log(q - 1)", () -> sums.log(q - 1) <= q - 2 ? 1 : 0, 1);
        });
    }

    private static void traces() {
        Fields.each((sums, q) -> {
            int p = sums.count(0);
            int[] seen = new int[p];
            for (int i = 0; i < q; i++) {
                int x = i;
                int together = 0;
                int power = x;
                for (int j = 0; j < sums.count(1); j++) {
                    together = sums.element(0, together, power);
                    int once = power;
                    for (int n = 1; n < p; n++) {
                        power = sums.element(2, power, once);
                    }
                }
                int due = together;
                Check.due("trace(" + x + ") of " + q, () -> sums.trace(x), due);
                seen[sums.trace(x)]++;
            }
            for (int value = 0; value < p; value++) {
                int at = value;
                Check.due("how many of " + q + " have TRACE " + at, () -> seen[at], q / p);
            }
        });
    }

    private static void noTraces() {
        Fields.each((sums, q) -> {
            Check.due("trace(0)", () -> sums.trace(0), 0);
            for (int x : Fields.outside(q)) {
                Check.noSuch("trace(" + x + ") of " + q, () -> sums.trace(x));
            }
        });
    }

    private static void characters() {
        Fields.each((sums, q) -> {
            int p = sums.count(0);
            for (int i = 0; i < (q - 1) * (q - 1); i++) {
                int j = i / (q - 1);
                int x = i % (q - 1) + 1;
                int due = p * j * sums.log(x) % (p * (q - 1));
                Check.due("character(" + j + ", " + x + ") of " + q, () -> sums.character(j, x), due);
            }
        });
        CharacterSums large = Check.over(23, 1);
        Check.due("the greatest that there is", () -> large.character(21, 5), 483);
    }

    private static void charactersOfNothing() {
        Fields.each((sums, q) -> {
            Check.due("character(0, 0) of " + q, () -> sums.character(0, 0), 0);
            Check.due("character(0, q - 1) of " + q, () -> sums.character(0, q - 1), 0);
        });
    }

    private static void noneIsNought() {
        Fields.each((sums, q) -> {
            for (int i = 1; i < q - 1; i++) {
                int j = i;
                Check.due("character(" + j + ", 0) of " + q, () -> sums.character(j, 0), -1);
                Check.due("character(" + j + ", 1) of " + q, () -> sums.character(j, 1), 0);
            }
            Check.due("character(0, 1) of " + q, () -> sums.character(0, 1), 0);
        });
    }

    private static void noCharacters() {
        Fields.each((sums, q) -> {
            for (int j : Fields.outside(q - 1)) {
                Check.noSuch("character(" + j + ", 1) of " + q, () -> sums.character(j, 1));
                Check.noSuch("character(" + j + ", 0) of " + q, () -> sums.character(j, 0));
            }
            for (int x : Fields.outside(q)) {
                Check.noSuch("character(0, " + x + ") of " + q, () -> sums.character(0, x));
                Check.noSuch("character(q - 2, " + x + ") of " + q, () -> sums.character(q - 2, x));
            }
            Check.due("the last ones", () -> sums.character(q - 2, q - 1) >= 0 ? 1 : 0, 1);
        });
    }

    private static void orders() {
        Fields.each((sums, q) -> {
            for (int i = 0; i < q - 1; i++) {
                int j = i;
                int n = 1;
                while (n * j % (q - 1) != 0) {
                    n++;
                }
                int due = n;
                Check.due("order(" + j + ") of " + q, () -> sums.order(j), due);
            }
            Check.due("order(0) of " + q, () -> sums.order(0), 1);
            Check.due("order(q - 2) of " + q, () -> sums.order(q - 2), q - 1);
        });
    }

    private static void noOrders() {
        Fields.each((sums, q) -> {
            for (int j : Fields.outside(q - 1)) {
                Check.noSuch("order(" + j + ") of " + q, () -> sums.order(j));
            }
        });
    }
}
