/** Sentence by sentence: a new object, field, feed. */
final class Promise01to03Test {
    public static void main(String[] args) {
        Sentence.test(1, "The FIELD of p 2, k 1", Promise01to03Test::firstField);
        Sentence.test(1, "all PLACES 0", Promise01to03Test::firstPlaces);
        Sentence.test(1, "There are PLACES 0 to 7, each with a VALUE (0 at first, and in a new FIELD)",
            Promise01to03Test::placesThereAre);
        Sentence.test(1, "one for each ELEMENT (0 at first, and in a new FIELD)", Promise01to03Test::firstRow);
        Sentence.test(1, "An object is used for at most 512 calls after it has been made", Promise01to03Test::manyCalls);
        Sentence.test(1, "`CharacterSums()`", Promise01to03Test::nothingHasBeen);
        Sentence.test(2, "p one of 2, 3, 5, 7, 11, 13, 17, 19, 23", Promise01to03Test::primes);
        Sentence.test(2, "k 1 or more", Promise01to03Test::leastK);
        Sentence.test(2, "q 27 at most", Promise01to03Test::mostElements);
        Sentence.test(2, "NONE (nothing changes): no such p, k.", Promise01to03Test::noSuchField);
        Sentence.test(2, "Another FIELD (all PLACES 0; the tape stays): q.", Promise01to03Test::anotherField);
        Sentence.test(2, "Another FIELD", Promise01to03Test::fromEachToEach);
        Sentence.test(2, "(0 at first, and in a new FIELD)", Promise01to03Test::theSameFieldAgain);
        Sentence.test(2, "each with a VALUE (0 at first, and in a new FIELD)", Promise01to03Test::thereAndBack);
        Sentence.test(3, "Twenty bytes come behind the tape, of each number the highest first", Promise01to03Test::order);
        Sentence.test(3, "how many it has", Promise01to03Test::howMany);
        Sentence.test(3, "NONE, and none come, if it would have more than 200.", Promise01to03Test::full);
        Sentence.test(3, "A TEXT of at most 200 bytes", Promise01to03Test::longest);
        Check.finish();
    }

    private static void firstField() {
        int[] due = {2, 1, 2, 2, 1, 1, 0, 0};
        CharacterSums sums = new CharacterSums();
        for (int i = 0; i < due.length; i++) {
            int what = i;
            Check.due("count(" + what + ")", () -> sums.count(what), due[what]);
        }
        Check.due("1 and 1", () -> sums.element(0, 1, 1), 0);
        Check.noSuch("ELEMENT 2", () -> sums.trace(2));
    }

    private static void firstPlaces() {
        CharacterSums sums = new CharacterSums();
        for (int i = 0; i < 8; i++) {
            int place = i;
            Check.due("coefficient(" + place + ", 0)", () -> sums.coefficient(place, 0), 0);
            Check.due("say(" + place + ")", () -> sums.say(place), 1);
            Check.due("said(0)", () -> sums.said(0), '0');
        }
    }

    private static void placesThereAre() {
        CharacterSums sums = new CharacterSums();
        for (int i = 0; i < 8; i++) {
            int place = i;
            Check.due("tell to " + place, () -> Check.tell(sums, place, "" + (place + 10)), 1);
        }
        for (int i = 0; i < 8; i++) {
            int place = i;
            Check.due("PLACE " + place, () -> sums.coefficient(place, 0), place + 10);
        }
        Check.noSuch("PLACE -1", () -> sums.coefficient(-1, 0));
        Check.noSuch("PLACE 8", () -> sums.coefficient(8, 0));
    }

    private static void firstRow() {
        CharacterSums sums = new CharacterSums();
        Check.due("F of 0", () -> sums.let(0, 5), 0);
        Check.due("F of 1", () -> sums.let(1, 5), 0);
        Check.noSuch("F of 2", () -> sums.let(2, 5));
        sums.field(3, 3);
        for (int i = 0; i < 27; i++) {
            int x = i;
            Check.due("F of " + x, () -> sums.let(x, 5), 0);
        }
    }

    /** The 512th call is answered as the first would be. */
    private static void manyCalls() {
        CharacterSums sums = new CharacterSums();
        for (int i = 0; i < 127; i++) {
            sums.field(23, 1);
            sums.feed(0x31202020, 0x20202020, 0x20202020, 0x20202020, 0x20202020);
            sums.tell(i % 8, 1);
            sums.lifted(22, 22, 2);
        }
        Check.due("call 509", () -> sums.field(5, 1), 5);
        Check.due("call 510", () -> sums.feed(0x7a332b31, 0, 0, 0, 0), 20);
        Check.due("call 511", () -> sums.tell(7, 4), 2);
        Check.due("call 512", () -> sums.coefficient(7, 3), 1);
    }

    private static void nothingHasBeen() {
        CharacterSums sums = new CharacterSums();
        Check.due("bytes", () -> sums.count(7), 0);
        Check.due("fault()", sums::fault, -1);
        Check.due("said(0)", () -> sums.said(0), -1);
        Check.illegal("tell(0, 1)", () -> sums.tell(0, 1));
        Check.due("tell(0, 0)", () -> sums.tell(0, 0), -11);
    }

    private static void primes() {
        String known = " 2 3 5 7 11 13 17 19 23 ";
        CharacterSums sums = new CharacterSums();
        for (int i = -30; i <= 60; i++) {
            int p = i;
            Check.due("field(" + p + ", 1)", () -> sums.field(p, 1), known.contains(" " + p + " ") ? p : -1);
        }
        for (int p : new int[] {Integer.MIN_VALUE, Integer.MIN_VALUE + 2, Integer.MAX_VALUE, 65537, 46349}) {
            Check.due("field(" + p + ", 1)", () -> sums.field(p, 1), -1);
        }
    }

    private static void leastK() {
        CharacterSums sums = new CharacterSums();
        for (int p : new int[] {2, 3, 5, 7, 23}) {
            Check.due("field(" + p + ", 1)", () -> sums.field(p, 1), p);
            Check.due("field(" + p + ", 0)", () -> sums.field(p, 0), -1);
            Check.due("field(" + p + ", -1)", () -> sums.field(p, -1), -1);
            Check.due("field(" + p + ", the least)", () -> sums.field(p, Integer.MIN_VALUE), -1);
        }
    }

    private static void mostElements() {
        CharacterSums sums = new CharacterSums();
        int[] primes = {2, 3, 5, 7, 11, 13, 17, 19, 23};
        int[] highest = {4, 3, 2, 1, 1, 1, 1, 1, 1};
        for (int i = 0; i < primes.length; i++) {
            int p = primes[i];
            int k = highest[i];
            int q = (int) Math.round(Math.pow(p, k));
            Check.due("field(" + p + ", " + k + ")", () -> sums.field(p, k), q);
            for (int above : new int[] {k + 1, k + 2, 7, 16, 31, 32, 33, 64, 1000, Integer.MAX_VALUE}) {
                Check.due("field(" + p + ", " + above + ")", () -> sums.field(p, above), -1);
            }
        }
        for (int[] one : Fields.ALL) {
            Check.due("field(" + one[0] + ", " + one[1] + ")", () -> sums.field(one[0], one[1]), one[2]);
        }
    }

    private static void noSuchField() {
        Check.changeNothing(sums -> {
            int[][] wrong = {{4, 1}, {1, 1}, {29, 1}, {5, 0}, {5, 3}, {2, 5}, {3, 4}, {7, 2}, {-5, 1}, {2, Integer.MAX_VALUE}};
            for (int[] one : wrong) {
                Check.due("field(" + one[0] + ", " + one[1] + ")", () -> sums.field(one[0], one[1]), -1);
            }
        });
    }

    private static void anotherField() {
        CharacterSums sums = Check.taped();
        Check.due("field(7, 1)", () -> sums.field(7, 1), 7);
        for (int i = 0; i < 8; i++) {
            int place = i;
            Check.due("PLACE " + place, () -> sums.of(place, 0), 0);
        }
        Check.due("the tape stays", () -> sums.count(7), 20);
        Check.due("fault() stays", sums::fault, 2);
        Check.due("what was SAID stays", () -> sums.said(0), '8');
        Check.due("what the tape holds stays", () -> sums.tell(1, 20), 2);
        Check.equal("the VALUE", Check.spoken(sums, 1), "-z3+7");
    }

    /** Nothing of the FIELD that was stays behind: another object that never had it answers the same. */
    private static void fromEachToEach() {
        for (int[] first : Fields.ALL) {
            for (int[] second : Fields.ALL) {
                CharacterSums one = Check.over(first[0], first[1]);
                one.lifted(first[2] - 1, first[2] - 1, 2);
                one.field(second[0], second[1]);
                CharacterSums other = Check.over(second[0], second[1]);
                int last = second[2] - 1;
                String text = "g" + (last - 1) + "." + last + "*z" + (second[3] - 1) + "+k1." + last;
                Check.due(text, () -> Check.tell(one, 7, text), Check.tell(other, 7, text));
                Check.equal(text, Check.spoken(one, 7), Check.spoken(other, 7));
                Check.due("log", () -> one.log(last), other.log(last));
                Check.due("trace", () -> one.trace(last), other.trace(last));
                Check.due("norm", () -> one.least(last, -1), other.least(last, -1));
                Check.due("lifted", () -> one.lifted(last, last, 1), other.lifted(last, last, 1));
                Check.due("moved", () -> one.make(6, 4, 7, second[3] - 1, 0), other.make(6, 4, 7, second[3] - 1, 0));
                Check.due("of 5", () -> one.of(6, 5), other.of(6, 5));
            }
        }
    }

    private static void theSameFieldAgain() {
        CharacterSums sums = Check.taped();
        Check.due("field(5, 1)", () -> sums.field(5, 1), 5);
        for (int i = 0; i < 8; i++) {
            int place = i;
            Check.due("PLACE " + place, () -> sums.of(place, 0), 0);
        }
        for (int i = 0; i < 5; i++) {
            int x = i;
            Check.due("F of " + x, () -> sums.let(x, 0), 0);
        }
        Check.due("the tape", () -> sums.count(7), 20);
    }

    /** What a larger FIELD has beyond a smaller one is 0 as well when it comes again. */
    private static void thereAndBack() {
        CharacterSums sums = Check.over(23, 1);
        Check.tell(sums, 0, "z219-4");
        Check.tell(sums, 7, "3*z218");
        sums.let(22, 4);
        sums.field(2, 1);
        Check.due("of(0, 0) of 2", () -> sums.of(0, 0), 0);
        Check.due("F of 1", () -> sums.let(1, 9), 0);
        sums.field(23, 1);
        Check.due("coefficient(0, 219)", () -> sums.coefficient(0, 219), 0);
        Check.due("coefficient(0, 0)", () -> sums.coefficient(0, 0), 0);
        Check.due("coefficient(7, 218)", () -> sums.coefficient(7, 218), 0);
        Check.due("F of 22", () -> sums.let(22, 0), 0);
        Check.due("F of 1", () -> sums.let(1, 0), 0);
    }

    /** A byte that can't stand anywhere is found where it was fed. */
    private static void order() {
        for (int i = 0; i < 40; i++) {
            CharacterSums sums = new CharacterSums();
            char[] text = " ".repeat(40).toCharArray();
            text[i] = '?';
            Check.feed(sums, new String(text));
            Check.due("tell", () -> sums.tell(0, 40), -11);
            Check.due("fault()", sums::fault, i);
        }
        CharacterSums sums = Check.over(5, 1);
        Check.feed(sums, "12-3*4+50-6*(7+8)-90");
        Check.feed(sums, "12+z1*0               ".substring(0, 20));
        Check.due("tell", () -> sums.tell(0, 40), 1);
        Check.due("the VALUE", () -> sums.coefficient(0, 0), 50 - 90 - 9012);
        for (int sign = 128; sign < 256; sign++) {
            int high = sign << 24 | 0x202020;
            sums.feed(0x31202020, 0x20202020, 0x20202020, 0x20202020, high);
            Check.due("tell with byte " + sign, () -> sums.tell(0, 20), -11);
        }
        Check.due("fault()", sums::fault, 16);
    }

    private static void howMany() {
        CharacterSums sums = new CharacterSums();
        for (int i = 1; i <= 10; i++) {
            int due = 20 * i;
            Check.due("feed", () -> sums.feed(-1, 0, Integer.MIN_VALUE, Integer.MAX_VALUE, 5), due);
            Check.due("count(7)", () -> sums.count(7), due);
        }
    }

    private static void full() {
        CharacterSums sums = new CharacterSums();
        Check.feed(sums, "1" + "+1".repeat(89) + " ");
        Check.due("the tape has 180", () -> sums.count(7), 180);
        Check.due("200 are not more than 200", () -> sums.feed(0x2b312b31, 0x2b312b31, 0x2b312b31, 0x2b312b31, 0x2b312b31), 200);
        Check.due("220 are", () -> sums.feed(0x3f3f3f3f, 0x3f3f3f3f, 0x3f3f3f3f, 0x3f3f3f3f, 0x3f3f3f3f), -1);
        Check.due("and again", () -> sums.feed(0x3f3f3f3f, 0x3f3f3f3f, 0x3f3f3f3f, 0x3f3f3f3f, 0x3f3f3f3f), -1);
        Check.due("none came", () -> sums.count(7), 200);
        Check.illegal("tell(0, 201)", () -> sums.tell(0, 201));
        Check.due("tell(0, 200)", () -> sums.tell(0, 200), 1);
        Check.due("the VALUE", () -> sums.coefficient(0, 0), 100);
        Check.due("the next come to an empty tape", () -> sums.feed(0x32202020, 0, 0, 0, 0), 20);
        Check.due("tell(0, 1)", () -> sums.tell(0, 1), 1);
        Check.due("the VALUE", () -> sums.coefficient(0, 0), 2);
    }

    private static void longest() {
        CharacterSums sums = Check.over(5, 1);
        Check.value(sums, "1" + "+1".repeat(99) + " ", "100");
        Check.value(sums, " ".repeat(199) + "7", "7");
        Check.value(sums, "0".repeat(199) + "7", "7");
        Check.value(sums, "1" + "*1".repeat(99) + "\n", "1");
        Check.value(sums, "-1" + "-1".repeat(99), "-100");
        Check.value(sums, "2" + "--1".repeat(66) + " ", "68");
        Check.faulty(sums, "1" + "+1".repeat(99) + "+", 1, 200);
        Check.faulty(sums, " ".repeat(200), 1, 200);
        Check.value(sums, "0".repeat(196) + "9+10", "19");
    }
}
