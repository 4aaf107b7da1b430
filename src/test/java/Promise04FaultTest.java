/** Sentence by sentence: the FAULTS of texts, and where they are. */
final class Promise04FaultTest {
    private static final String FIGURES = "0123456789";
    private static final String ATOM_BEGINS = FIGURES + "zgjkp#(-~m";

    public static void main(String[] args) {
        Sentence.test(4, "1 it can't stand there", Promise04FaultTest::whatCanStand);
        Sentence.test(4, "(the end, where the text can't end: its length)", Promise04FaultTest::theEnd);
        Sentence.test(4, "2 it is a NUMBER that isn't as told (above 9999,", Promise04FaultTest::above9999);
        Sentence.test(4, "no such CHARACTER,", Promise04FaultTest::noSuchCharacter);
        Sentence.test(4, "no such CHARACTER, ELEMENT,", Promise04FaultTest::noSuchElement);
        Sentence.test(4, "PERIOD e, i (e 1 or more, it divides q - 1; i 0 to e - 1)", Promise04FaultTest::noSuchClasses);
        Sentence.test(4, "no such CHARACTER, ELEMENT, e, i, POWER,", Promise04FaultTest::noSuchPower);
        Sentence.test(4, "no such CHARACTER, ELEMENT, e, i, POWER, PLACE,", Promise04FaultTest::noSuchPlace);
        Sentence.test(4, "no MOVING by it)", Promise04FaultTest::noSuchMoving);
        Sentence.test(4, "3 the 7th of '(', '-' (of an ATOM), '~', 'm' that are open at once", Promise04FaultTest::tooManyOpen);
        Sentence.test(4, "'-' (of an ATOM)", Promise04FaultTest::signsOfSums);
        Sentence.test(4, "(the latter three till their ATOM ends)", Promise04FaultTest::tillTheirAtomEnds);
        Sentence.test(4, "the text is gone through from its first byte on, TOKEN by TOKEN; at the first TOKEN",
            Promise04FaultTest::firstOne);
        Sentence.test(4, "it is that (the first one of this list)", Promise04FaultTest::firstOfTheList);
        Sentence.test(4, "its place the TOKEN's first byte", Promise04FaultTest::firstByte);
        Check.finish();
    }

    /** Puts each byte behind a beginning: FAULT 1 is there just if the byte is none of those that may come. */
    private static void mayCome(String ahead, String those) {
        for (int sign = 0; sign < 256; sign++) {
            if (sign == ' ' || sign == '\n') {
                continue;
            }
            CharacterSums sums = Check.over(5, 1);
            String text = ahead + (char) sign;
            int answer = Check.tell(sums, 0, text);
            boolean refused = answer == -11 && sums.fault() == ahead.length();
            Check.equal("byte " + sign + " behind " + ahead, refused + "", (those.indexOf(sign) < 0) + "");
        }
    }

    private static void whatCanStand() {
        for (String ahead : new String[] {"", " ", "(", "-", "~", "m3.", "1+", "1-", "1*", "1^2+", "(1+", "(2*", "~(", "1--"}) {
            mayCome(ahead, ATOM_BEGINS);
        }
        for (String ahead : new String[] {"1 ", "(1)", "z1 ", "g1.1 ", "j1.1.1 ", "k1.1 ", "p1.0 ", "#1 ", "-1 ", "~1 ", "m3.1 "}) {
            mayCome(ahead, "+-*^");
            mayCome("(" + ahead, "+-*^)");
        }
        mayCome("1", FIGURES + "+-*^");
        for (String ahead : new String[] {"1^2 ", "(1)^0 ", "-1^2 ", "g1.1^2 "}) {
            mayCome(ahead, "+-*");
            mayCome("(" + ahead, "+-*)");
        }
        for (String ahead : new String[] {"1^", "z", "g", "g1.", "j", "j1.", "j1.1.", "k", "k1.", "p", "p1.", "#", "m", "~m"}) {
            mayCome(ahead, FIGURES);
        }
        for (String ahead : new String[] {"g1 ", "j1 ", "j1.1 ", "k1 ", "p1 ", "m3 "}) {
            mayCome(ahead, ".");
        }
    }

    private static void theEnd() {
        CharacterSums sums = Check.over(5, 1);
        String[] open = {"", "(", "-", "~", "m", "m3", "m3.", "1+", "1-", "1*", "1^", "z", "g", "g1", "g1.", "j", "j1", "j1.",
            "j1.1", "j1.1.", "k", "k1", "k1.", "p", "p1", "p1.", "#", "(1", "(1+", "(1)*", "((1)", "-(1", "~(1^2", "((((((1"};
        for (String text : open) {
            Check.faulty(sums, text, 1, text.length());
            Check.faulty(sums, text + " ", 1, text.length() + 1);
            Check.faulty(sums, text + "\n \n", 1, text.length() + 3);
            Check.faulty(sums, " " + text, 1, text.length() + 1);
        }
        for (String text : new String[] {"1", "(1)", "z1", "g1.1", "j1.1.1", "k1.1", "p1.0", "#1", "-1", "~1", "m3.1", "1^2"}) {
            Check.equal(text + " may end", (Check.tell(sums, 0, text + " ") >= 0) + "", "true");
        }
    }

    private static void above9999() {
        CharacterSums sums = Check.over(5, 1);
        Check.value(sums, "9998", "9998");
        Check.value(sums, "9999", "9999");
        String[] heads = {"", "z", "g", "g1.", "j", "j1.", "j1.1.", "k", "k1.", "p", "p1.", "#", "1^", "m", "(", "-", "1+"};
        for (String head : heads) {
            for (String number : new String[] {"10000", "10001", "99999", "65536", "65537", "4294967296", "4294967297",
                "18446744073709551617", "00000000010000"}) {
                Check.faulty(sums, head + number, 2, head.length());
            }
        }
    }

    /** The most that a NUMBER may be behind a head, and one more. */
    private static void most(CharacterSums sums, String head, int most, String tail) {
        Check.equal(head + "0" + tail, (Check.tell(sums, 0, head + "0" + tail) >= 0) + "", "true");
        Check.equal(head + most + tail, (Check.tell(sums, 0, head + most + tail) >= 0) + "", "true");
        Check.faulty(sums, head + (most + 1) + tail, 2, head.length());
        Check.faulty(sums, head + (most + 2) + tail, 2, head.length());
        Check.faulty(sums, head + "9999" + tail, 2, head.length());
    }

    private static void noSuchCharacter() {
        for (int[] field : Fields.ALL) {
            CharacterSums sums = Check.over(field[0], field[1]);
            most(sums, "g", field[2] - 2, ".0");
            most(sums, "j", field[2] - 2, ".0.0");
            most(sums, "j0.", field[2] - 2, ".0");
        }
    }

    private static void noSuchElement() {
        for (int[] field : Fields.ALL) {
            CharacterSums sums = Check.over(field[0], field[1]);
            most(sums, "g0.", field[2] - 1, "");
            most(sums, "j0.0.", field[2] - 1, "");
            most(sums, "k", field[2] - 1, ".0");
            most(sums, "k0.", field[2] - 1, "");
        }
    }

    private static void noSuchClasses() {
        for (int[] field : Fields.ALL) {
            int all = field[2] - 1;
            CharacterSums sums = Check.over(field[0], field[1]);
            for (int e = 0; e <= 2 * all + 1; e++) {
                if (e >= 1 && all % e == 0) {
                    most(sums, "p" + e + ".", e - 1, "");
                } else {
                    Check.faulty(sums, "p" + e + ".0", 2, 1);
                }
            }
        }
    }

    private static void noSuchPower() {
        CharacterSums sums = Check.over(5, 1);
        most(sums, "1^", 20, "");
        most(sums, "(z1)^", 20, "+1");
    }

    private static void noSuchPlace() {
        CharacterSums sums = Check.over(5, 1);
        most(sums, "#", 7, "");
        most(sums, "-#", 7, "*2");
    }

    private static void noSuchMoving() {
        for (int[] field : Fields.ALL) {
            CharacterSums sums = Check.over(field[0], field[1]);
            int n = sums.count(3);
            for (int a = 0; a <= n + 1; a++) {
                String text = "m" + a + ".1";
                if (a < n && Fields.common(a, n) == 1) {
                    Check.value(sums, text, "1");
                } else {
                    Check.faulty(sums, text, 2, 1);
                }
            }
        }
    }

    private static void tooManyOpen() {
        CharacterSums sums = Check.over(5, 1);
        Check.value(sums, "(((((1)))))", "1");
        Check.value(sums, "((((((1))))))", "1");
        Check.faulty(sums, "(((((((1)))))))", 3, 6);
        Check.faulty(sums, "((((((((1))))))))", 3, 6);
        Check.value(sums, "------1", "1");
        Check.faulty(sums, "-------1", 3, 6);
        Check.value(sums, "~~~~~~1", "1");
        Check.faulty(sums, "~~~~~~~1", 3, 6);
        Check.value(sums, "m3.m3.m3.m3.m3.m3.1", "1");
        Check.faulty(sums, "m3.m3.m3.m3.m3.m3.m3.1", 3, 18);
        String[] signs = {"(", "-", "~", "m3."};
        for (String first : signs) {
            for (String second : signs) {
                for (String last : signs) {
                    String six = first + second + second + first + second + first;
                    String closed = ")".repeat((int) six.chars().filter(sign -> sign == '(').count());
                    Check.equal(six, (Check.tell(sums, 0, six + "1" + closed) >= 0) + "", "true");
                    Check.faulty(sums, six + last + "1", 3, six.length());
                }
            }
        }
    }

    /** A '-' between TERMS opens nothing. */
    private static void signsOfSums() {
        CharacterSums sums = Check.over(5, 1);
        Check.value(sums, "9-1-1-1-1-1-1-1-1", "1");
        Check.value(sums, "((((((9-1-1-1-1-1-1-1-1))))))", "1");
        Check.value(sums, "(((((9--1--1--1--1--1--1--1)))))", "16");
        Check.faulty(sums, "((((((9--1))))))", 3, 8);
        Check.faulty(sums, "((((((-1))))))", 3, 6);
        Check.faulty(sums, "((((((9*-1))))))", 3, 8);
    }

    private static void tillTheirAtomEnds() {
        CharacterSums sums = Check.over(5, 1);
        Check.value(sums, "(((((-1*-1*~1+~2-m3.3*m3.4)))))", "-9");
        Check.value(sums, "(((((-1^2*~1)))))", "1");
        Check.value(sums, "-----(1+2)--3", "0");
        Check.value(sums, "-(-(-(1)))--(-(-(1)))", "0");
        Check.value(sums, "-(-1-1)*(-(-(~2)))", "4");
        Check.faulty(sums, "-(-1-1)*(-(-(~(2))))", 3, 14);
        Check.value(sums, "------1*------1", "1");
        Check.value(sums, "------1+------1-------1", "1");
        Check.value(sums, "(1)+(1)+(1)+(1)+(1)+(1)+(1)+(1)", "8");
        Check.value(sums, "((1)+((2)+((3)+((4)+((5)+(6))))))", "21");
        Check.faulty(sums, "((1)+((2)+((3)+((4)+((5)+((6)))))))", 3, 26);
        Check.faulty(sums, "------(1)", 3, 6);
        Check.faulty(sums, "(((-(-(1", 3, 6);
        Check.faulty(sums, "(((((-(1", 3, 6);
        Check.faulty(sums, "(((((-1*-(1", 3, 9);
        Check.faulty(sums, "m3.(m3.(m3.(m3.1", 3, 12);
    }

    private static void firstOne() {
        CharacterSums sums = Check.over(5, 1);
        Check.faulty(sums, "z20+)", 2, 1);
        Check.faulty(sums, ")+z20", 1, 0);
        Check.faulty(sums, "z20+(((((((1", 2, 1);
        Check.faulty(sums, "(((((((z20)", 3, 6);
        Check.faulty(sums, "((((((z20+(", 2, 7);
        Check.faulty(sums, "p3.9", 2, 1);
        Check.faulty(sums, "p2.9", 2, 3);
        Check.faulty(sums, "g9.9", 2, 1);
        Check.faulty(sums, "j0.9.9", 2, 3);
        Check.faulty(sums, "m2.?", 2, 1);
        Check.faulty(sums, "m?2.", 1, 1);
        Check.faulty(sums, "g4?", 2, 1);
        Check.faulty(sums, "1?2?", 1, 1);
        Check.faulty(sums, "#8#9", 2, 1);
    }

    /** Where two of the list are so at one TOKEN. */
    private static void firstOfTheList() {
        CharacterSums sums = Check.over(5, 1);
        Check.faulty(sums, "1 10000", 1, 2);
        Check.faulty(sums, "(1)99999", 1, 3);
        Check.faulty(sums, "z1 20", 1, 3);
        Check.faulty(sums, "g 1 10000", 1, 4);
        Check.faulty(sums, "((((((1(", 1, 7);
        Check.faulty(sums, "((((((1~", 1, 7);
        Check.faulty(sums, "((((((1m", 1, 7);
        Check.faulty(sums, "((((((z-", 1, 7);
        Check.faulty(sums, "((((((z(", 1, 7);
        Check.faulty(sums, "((((((g1.~", 1, 9);
        Check.faulty(sums, "((((((1^m", 1, 8);
        Check.faulty(sums, "m3.m3.m3.m3.m3.m3 m", 1, 18);
    }

    private static void firstByte() {
        CharacterSums sums = Check.over(5, 1);
        Check.faulty(sums, "   10000", 2, 3);
        Check.faulty(sums, "z \n 0000020", 2, 4);
        Check.faulty(sums, "1 +  \n)", 1, 6);
        Check.faulty(sums, "( ( ( ( ( ( (", 3, 12);
        Check.faulty(sums, "-\n-\n-\n-\n-\n-\n\n-1", 3, 13);
        Check.faulty(sums, "1   22", 1, 4);
        Check.faulty(sums, "?", 1, 0);
        Check.faulty(sums, " ".repeat(199) + "?", 1, 199);
        Check.faulty(sums, "1" + "+1".repeat(96) + "+10000", 2, 194);
    }
}
