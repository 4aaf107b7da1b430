/** Sentence by sentence: tell, what it takes from the tape, what texts are worth and what is GREAT. */
final class Promise04Test {
    private static final int[] WRONG_PLACES = {-1, 8, 9, Integer.MIN_VALUE, Integer.MAX_VALUE};

    public static void main(String[] args) {
        Sentence.test(4, "The tape's first n bytes", Promise04Test::firstBytes);
        Sentence.test(4, "(it is empty then, whatever comes of it)", Promise04Test::emptyThen);
        Sentence.test(4, "a PLACE has that VALUE then", Promise04Test::onePlace);
        Sentence.test(4, "how many COEFFICIENTS aren't 0.", Promise04Test::howMany);
        Sentence.test(4, "-2: GREAT", Promise04Test::greatChangesNothing);
        Sentence.test(4, "-10 less the FAULT (these change nothing else).", Promise04Test::faultChangesNothing);
        Sentence.test(4, "IllegalArgumentException (ahead of all, and nothing changes)", Promise04Test::aheadOfAll);
        Sentence.test(4, "no such PLACE, the tape has not so many, n below 0.", Promise04Test::wrongArguments);
        Sentence.test(4, "TOKENS: each byte but blanks (32, 10), which may stand anywhere between", Promise04Test::blanks);
        Sentence.test(4, "(not in a NUMBER)", Promise04Test::blanksInNumbers);
        Sentence.test(4, "(it counts as what it is, 007 as 7), 0 to 9999", Promise04Test::numbers);
        Sentence.test(4, "(All from the left.)", Promise04Test::fromTheLeft);
        Sentence.test(4, "(the POWER, 0 to 20; 0: 1)", Promise04Test::powers);
        Sentence.test(4, "'z' NUMBER (Z to that, 0 to N - 1)", Promise04Test::roots);
        Sentence.test(4, "(the VALUE of a PLACE as it was ahead of the call)", Promise04Test::placesAhead);
        Sentence.test(4, "'-' ATOM (less it)", Promise04Test::lessIt);
        Sentence.test(4, "'~' ATOM (its CONJUGATE)", Promise04Test::conjugates);
        Sentence.test(4, "'m' NUMBER '.' ATOM (it MOVED by that)", Promise04Test::moved);
        Sentence.test(4, "GREAT is one of which some COEFFICIENT is below -1000000 or above 1000000", Promise04Test::great);
        Sentence.test(4, "where a VALUE (of an ATOM,", Promise04Test::greatAtoms);
        Sentence.test(4, "of a FACTOR: each POWER 2, 3, .. on the way, too,", Promise04Test::greatPowers);
        Sentence.test(4, "of what stands ahead of and with each sign) is GREAT, the call is refused.", Promise04Test::greatSigns);
        Sentence.test(4, "When all is read without a FAULT the VALUE is worked out", Promise04Test::faultAheadOfGreat);
        Sentence.test(4, "from the left, each part ahead of what it is a part of", Promise04Test::eachPart);
        Check.finish();
    }

    private static void firstBytes() {
        int[] answers = {-11, 1, 1, -11, 1, -11};
        int[] faults = {0, -1, -1, 3, -1, 4};
        int[] worth = {0, 7, 76, 0, 72, 0};
        for (int i = 0; i < answers.length; i++) {
            int n = i;
            CharacterSums sums = Check.over(5, 1);
            Check.feed(sums, "76-4?");
            Check.due("tell(3, " + n + ")", () -> sums.tell(3, n), answers[n]);
            Check.due("fault()", sums::fault, faults[n]);
            Check.due("the VALUE", () -> sums.coefficient(3, 0), worth[n]);
        }
        CharacterSums sums = Check.over(5, 1);
        Check.feed(sums, "1" + "+1".repeat(99) + "+");
        Check.due("199 of 200", () -> sums.tell(0, 199), 1);
        Check.feed(sums, "1" + "+1".repeat(99) + "+");
        Check.due("200 of 200", () -> sums.tell(0, 200), -11);
    }

    private static void emptyThen() {
        CharacterSums sums = Check.over(5, 1);
        for (String text : new String[] {"1", "0", "1+", "z20", "(((((((1", "9999*9999", "m3.(1000*1000*(z6+z4))"}) {
            Check.feed(sums, text);
            Check.feed(sums, "and more behind it");
            sums.tell(0, text.length());
            Check.due("bytes behind " + text, () -> sums.count(7), 0);
            Check.illegal("one more byte behind " + text, () -> sums.tell(0, 1));
            Check.due("feed behind " + text, () -> sums.feed(0, 0, 0, 0, 0), 20);
            Check.due("none of 20", () -> sums.tell(0, 0), -11);
            Check.due("bytes behind none of 20", () -> sums.count(7), 0);
        }
    }

    private static void onePlace() {
        for (int i = 0; i < 8; i++) {
            int told = i;
            CharacterSums sums = Check.taped();
            Check.due("tell(" + told + ", 20)", () -> sums.tell(told, 20), 2);
            for (int j = 0; j < 8; j++) {
                int place = j;
                int factor = place + 2;
                String was = place == 0 ? "1" : factor + "z" + (place == 1 ? "" : place) + "-1";
                Check.equal("PLACE " + place, Check.spoken(sums, place), place == told ? "-z3+7" : was);
            }
        }
    }

    private static void howMany() {
        CharacterSums five = Check.over(5, 1);
        Check.due("none", () -> Check.tell(five, 0, "z1-z1"), 0);
        Check.due("the first alone", () -> Check.tell(five, 0, "3"), 1);
        Check.due("the last alone", () -> Check.tell(five, 0, "-z7"), 1);
        Check.due("all 8", () -> Check.tell(five, 0, "1+z1+z2+z3-z4+z5+z6+z7"), 8);
        Check.due("all but one", () -> Check.tell(five, 0, "1+z1+z2+z3-z4+z5+z6+z7-z4*-1"), 7);
        CharacterSums two = new CharacterSums();
        Check.due("none of 1", () -> Check.tell(two, 0, "1+z1"), 0);
        Check.due("all of 1", () -> Check.tell(two, 0, "1-z1"), 1);
        CharacterSums large = Check.over(23, 1);
        Check.tell(large, 1, "(1+z1)*(1+z2+z4+z6+z8)");
        Check.due("all 220", () -> Check.tell(large, 2,
            "#1*(1+z10+z20+z30+z40+z50+z60+z70+z80+z90+z100)*(1+z110)"), 220);
    }

    private static void greatChangesNothing() {
        CharacterSums sums = Check.laden();
        Check.tell(sums, 3, "1");
        String before = Check.state(sums);
        for (String text : new String[] {"1000*1000+1", "10^7", "9999*9999*0", "m3.(1000*1000*(z6+z4))"}) {
            for (int place : new int[] {0, 3, 7}) {
                Check.due(text, () -> Check.tell(sums, place, text), -2);
            }
        }
        Check.equal("the state", Check.state(sums), before);
    }

    /** Only fault() tells of it. */
    private static void faultChangesNothing() {
        CharacterSums sums = Check.laden();
        String before = Check.state(sums);
        String[] texts = {"1 +", "20^", "z20", "#8", "(((((((", "-------1", ""};
        int[] answers = {-11, -11, -12, -12, -13, -13, -11};
        int[] at = {3, 3, 1, 1, 6, 6, 0};
        for (int i = 0; i < texts.length; i++) {
            int one = i;
            Check.due(texts[i], () -> Check.tell(sums, one, texts[one]), answers[i]);
            Check.due("fault() of " + texts[i], sums::fault, at[i]);
        }
        Check.due("1+", () -> Check.tell(sums, 3, "1+"), -11);
        Check.equal("the state", Check.state(sums), before);
    }

    private static void aheadOfAll() {
        Check.changeNothing(sums -> {
            for (int place : WRONG_PLACES) {
                Check.illegal("tell(" + place + ", 4)", () -> sums.tell(place, 4));
                Check.illegal("tell(" + place + ", 0), a FAULT otherwise", () -> sums.tell(place, 0));
                Check.illegal("tell(" + place + ", 2), a FAULT otherwise", () -> sums.tell(place, 2));
                Check.illegal("tell(" + place + ", 21)", () -> sums.tell(place, 21));
            }
            for (int n : new int[] {-1, 21, Integer.MIN_VALUE, Integer.MAX_VALUE}) {
                Check.illegal("tell(0, " + n + ")", () -> sums.tell(0, n));
            }
        });
        CharacterSums great = Check.over(5, 1);
        Check.feed(great, "9999*9999");
        Check.illegal("no such PLACE is ahead of GREAT", () -> great.tell(8, 9));
        Check.due("GREAT", () -> great.tell(7, 9), -2);
    }

    private static void wrongArguments() {
        for (int place = -2; place < 10; place++) {
            int to = place;
            CharacterSums sums = Check.over(5, 1);
            Check.feed(sums, "z3");
            if (place < 0 || place > 7) {
                Check.illegal("tell(" + to + ", 2)", () -> sums.tell(to, 2));
            } else {
                Check.due("tell(" + to + ", 2)", () -> sums.tell(to, 2), 1);
            }
        }
        CharacterSums sums = Check.over(5, 1);
        Check.illegal("an empty tape has no byte", () -> sums.tell(0, 1));
        Check.illegal("n -1 of an empty tape", () -> sums.tell(0, -1));
        Check.due("n 0 of an empty tape", () -> sums.tell(0, 0), -11);
        for (int fed = 20; fed <= 200; fed += 20) {
            int bytes = fed;
            Check.feed(sums, " ".repeat(bytes - 1) + "4");
            Check.illegal("n " + (bytes + 1), () -> sums.tell(0, bytes + 1));
            Check.illegal("n -1", () -> sums.tell(0, -1));
            Check.due("n " + bytes, () -> sums.tell(0, bytes), 1);
        }
    }

    private static void blanks() {
        CharacterSums sums = Check.over(5, 1);
        Check.value(sums, " \n( m 3\n. ~ - # 0 +\n\ng 2 . 1 ^ 2 ) *  12 \n - z\n7 ", "-z7+60");
        Check.value(sums, "\n\n\n4", "4");
        Check.value(sums, "4   ", "4");
        for (int sign = 0; sign < 256; sign++) {
            boolean blank = sign == 32 || sign == 10;
            String text = "(1)" + (char) sign + "*2";
            if (blank) {
                Check.value(sums, text, "2");
            } else if ("+-*^)".indexOf(sign) < 0) {
                Check.faulty(sums, text, 1, 3);
            }
        }
    }

    private static void blanksInNumbers() {
        CharacterSums sums = Check.over(5, 1);
        Check.faulty(sums, "1 2", 1, 2);
        Check.faulty(sums, "1\n2", 1, 2);
        Check.faulty(sums, "z1 0", 1, 3);
        Check.faulty(sums, "2^1 0", 1, 4);
        Check.value(sums, "z10", "-1");
        Check.value(sums, "12", "12");
    }

    private static void numbers() {
        CharacterSums sums = Check.over(5, 1);
        Check.value(sums, "0", "0");
        Check.value(sums, "000", "0");
        Check.value(sums, "007", "7");
        Check.value(sums, "9999", "9999");
        Check.value(sums, "0009999", "9999");
        Check.value(sums, "0".repeat(190) + "9999", "9999");
        Check.value(sums, "z019", "-z7+z5-z3+z");
        Check.value(sums, "z00", "1");
        Check.value(sums, "2^0010", "1024");
        Check.value(sums, "m0003.z01", "z3");
        Check.value(sums, "#0000+g00.000", "z3+5");
        Check.faulty(sums, "10000", 2, 0);
        Check.faulty(sums, "0010000", 2, 0);
        Check.faulty(sums, "100000000000000000000", 2, 0);
        Check.faulty(sums, "4294967296", 2, 0);
        Check.faulty(sums, "4294967297", 2, 0);
        Check.faulty(sums, "18446744073709551617", 2, 0);
        Check.faulty(sums, "9".repeat(200), 2, 0);
    }

    private static void fromTheLeft() {
        CharacterSums sums = Check.over(5, 1);
        Check.value(sums, "10-3-4", "3");
        Check.value(sums, "10-3+4", "11");
        Check.value(sums, "10-(3-4)", "11");
        Check.value(sums, "2+3*4-5*6*7", "-196");
        Check.value(sums, "1000*1000-1+1", "1000000");
        Check.value(sums, "0*1000*1001", "0");
    }

    private static void powers() {
        CharacterSums sums = Check.over(5, 1);
        Check.value(sums, "0^0", "1");
        Check.value(sums, "0^1", "0");
        Check.value(sums, "0^20", "0");
        Check.value(sums, "9999^0", "1");
        Check.value(sums, "9999^1", "9999");
        Check.value(sums, "z7^0", "1");
        Check.value(sums, "z7^1", "z7");
        Check.value(sums, "z1^19*z1", "1");
        Check.value(sums, "z1^20", "1");
        Check.faulty(sums, "z1^21", 2, 3);
        Check.faulty(sums, "1^10000", 2, 2);
        Check.faulty(sums, "2^2^2", 1, 3);
    }

    private static void roots() {
        for (int[] field : new int[][] {{2, 1}, {3, 1}, {2, 2}, {5, 1}, {3, 3}, {23, 1}}) {
            CharacterSums sums = Check.over(field[0], field[1]);
            int n = sums.count(3);
            Check.value(sums, "z0", "1");
            Check.value(sums, "z" + (n - 1) + "*z1", "1");
            Check.value(sums, "z" + n / 2, "-1");
            Check.faulty(sums, "z" + n, 2, 1);
            Check.faulty(sums, "z" + (n + 1), 2, 1);
            int d = sums.count(4);
            Check.value(sums, "z" + (d - 1), d == 1 ? "1" : d == 2 ? "z" : "z" + (d - 1));
            Check.due("Z to the D is no POWER by itself", () -> Check.tell(sums, 0, "z" + d) > 1 || d == 1 || n == 6 ? 1 : 0, 1);
        }
    }

    private static void placesAhead() {
        CharacterSums sums = Check.over(5, 1);
        Check.tell(sums, 0, "z3+1");
        Check.value(sums, "#0*#0-#0", "z6+z3");
        Check.value(sums, "#0", "z6+z3");
        Check.value(sums, "#7", "0");
        Check.tell(sums, 7, "4");
        Check.value(sums, "#7", "4");
        Check.faulty(sums, "#8", 2, 1);
    }

    private static void lessIt() {
        CharacterSums sums = Check.over(5, 1);
        Check.value(sums, "-0", "0");
        Check.value(sums, "-z3", "-z3");
        Check.value(sums, "--z3", "z3");
        Check.value(sums, "-2^2", "4");
        Check.value(sums, "0-2^2", "-4");
        Check.value(sums, "-(2^2)", "-4");
        Check.value(sums, "3--2", "5");
        Check.value(sums, "3*-2", "-6");
    }

    private static void conjugates() {
        CharacterSums sums = Check.over(5, 1);
        Check.value(sums, "~7", "7");
        Check.value(sums, "~z1-z19", "0");
        Check.value(sums, "~~z3", "z3");
        Check.value(sums, "~z5+z5", "0");
        Check.value(sums, "~z1^2-z18", "0");
        Check.value(new CharacterSums(), "~z1", "-1");
    }

    private static void moved() {
        CharacterSums sums = Check.over(5, 1);
        Check.value(sums, "m1.(z3+2)", "z3+2");
        Check.value(sums, "m19.z3-~z3", "0");
        Check.value(sums, "m7.z1", "z7");
        Check.value(sums, "m7.z1^3", "z");
        Check.value(sums, "m3.5", "5");
        Check.value(new CharacterSums(), "m1.z1", "-1");
    }

    private static void great() {
        CharacterSums sums = Check.over(5, 1);
        Check.value(sums, "1000*1000", "1000000");
        Check.value(sums, "1000*1000-1", "999999");
        Check.value(sums, "1000*1000+1", "-2");
        Check.value(sums, "0-1000*1000", "-1000000");
        Check.value(sums, "1-1000*1000", "-999999");
        Check.value(sums, "0-1000*1000-1", "-2");
        Check.value(sums, "1000*1000*z7", "1000000z7");
        Check.value(sums, "1000*1000*z7+z7", "-2");
        Check.value(sums, "-1000*1000*z7", "-1000000z7");
        Check.value(sums, "-1000*1000*z7-z7", "-2");
        Check.value(sums, "1000*1000*z3+1000*1000*z4-1000*1000", "1000000z4+1000000z3-1000000");
        CharacterSums large = Check.over(23, 1);
        Check.value(large, "1000*1000*z219", "1000000z219");
        Check.value(large, "1000*1000*z219+z219", "-2");
        Check.value(large, "9999*101", "-2");
        Check.value(large, "9999*100", "999900");
        CharacterSums two = new CharacterSums();
        Check.value(two, "1000*1000*z1", "-1000000");
        Check.value(two, "1000*1000*z1-1", "-2");
    }

    /** Z to the 8 is Z^6 - Z^4 + Z^2 - 1 over the FIELD of 5, so that another way to tell a root adds up. */
    private static void greatAtoms() {
        CharacterSums sums = Check.over(5, 1);
        Check.tell(sums, 7, "1000*1000*(z6+z4)");
        Check.value(sums, "#7", "1000000z6+1000000z4");
        Check.value(sums, "m3.#7", "-2");
        Check.value(sums, "m3.#7-m3.#7", "-2");
        Check.value(sums, "0*m3.#7", "-2");
        Check.value(sums, "m3.#7^0", "-2");
        Check.value(sums, "m7.m3.#7", "-2");
        Check.value(sums, "m1.#7", "1000000z6+1000000z4");
        Check.tell(sums, 6, "1000*1000*(z7+z3)");
        Check.value(sums, "-#6", "-1000000z7-1000000z3");
        Check.tell(sums, 5, "1000*1000*(z7-z6+z4-z2)");
        Check.value(sums, "~#5", "-1000000z3+1000000z2-1000000");
        Check.tell(sums, 5, "1000*1000*(z7-z3)");
        Check.value(sums, "~#5", "1000000z7-1000000z3");
        Check.tell(sums, 4, "1000*1000*(z6-z4)");
        Check.value(sums, "~#4", "1000000z6-1000000z4");
        Check.tell(sums, 4, "1000*1000*(z1+z3)");
        Check.value(sums, "~#4", "-2");
        Check.tell(sums, 4, "500*1000*(z1+z3)");
        Check.due("half of it", () -> Check.tell(sums, 0, "~#4") < 0 ? 0 : 1, 1);
    }

    /** Over the FIELD of 11 there is a VALUE of which POWER 14 is GREAT, but POWER 15 isn't. */
    private static void greatPowers() {
        CharacterSums sums = Check.over(11, 1);
        int thirteen = Check.tell(sums, 1, "(z24-z25-z32)^13");
        Check.equal("POWER 13 is not GREAT", (thirteen > 0) + "", "true");
        int fifteen = Check.tell(sums, 2, "((z24-z25-z32)^5)^3");
        Check.equal("POWER 15 is not GREAT", (fifteen > 0) + "", "true");
        Check.value(sums, "(z24-z25-z32)^14", "-2");
        Check.value(sums, "(z24-z25-z32)^15", "-2");
        Check.value(sums, "10^6", "1000000");
        Check.value(sums, "10^7", "-2");
        Check.value(sums, "1000^2", "1000000");
        Check.value(sums, "1001^2", "-2");
        Check.value(sums, "100^3", "1000000");
        Check.value(sums, "101^3", "-2");
        Check.value(sums, "-10^6", "1000000");
        Check.value(sums, "2^19", "524288");
        Check.value(sums, "2^20", "-2");
        Check.value(sums, "1^20", "1");
        Check.value(sums, "9999^1", "9999");
        Check.value(sums, "9999^2*0", "-2");
    }

    private static void greatSigns() {
        CharacterSums sums = Check.over(5, 1);
        Check.value(sums, "1000*1000+1-1", "-2");
        Check.value(sums, "1+1000*1000-1", "-2");
        Check.value(sums, "0-1000*1000-1+1", "-2");
        Check.value(sums, "1000*1000-1+1", "1000000");
        Check.value(sums, "1000*1001*0", "-2");
        Check.value(sums, "0*1000*1001", "0");
        Check.value(sums, "0*(1000*1001)", "-2");
        Check.value(sums, "1-1001*1000+1001*1000", "-2");
        Check.value(sums, "1000*1000*z1-1000*1000*z1", "0");
        Check.value(sums, "1000*1000*z1+z1-z1", "-2");
        Check.value(sums, "1000*1000*z6*z1*z1", "1000000z6-1000000z4+1000000z2-1000000");
        Check.value(sums, "(1000*1000*z6+z1)*z2-1000*1000*z8", "z3");
        Check.value(sums, "1000*1000*z6+z8", "-2");
        Check.value(sums, "1000*1000*z6-z8", "999999z6+z4-z2+1");
    }

    private static void faultAheadOfGreat() {
        CharacterSums sums = Check.over(5, 1);
        Check.faulty(sums, "9999*9999+", 1, 10);
        Check.faulty(sums, "9999*9999*z20", 2, 11);
        Check.faulty(sums, "9999^20+(((((((1", 3, 14);
        Check.faulty(sums, "10^7)", 1, 4);
        Check.value(sums, "9999*9999", "-2");
        Check.due("fault()", sums::fault, -1);
    }

    private static void eachPart() {
        CharacterSums sums = Check.over(5, 1);
        Check.value(sums, "(((10^6)-1)*1+(1-0))", "1000000");
        Check.value(sums, "2*(3+4*(5-6)^3)^2", "2");
        Check.value(sums, "-(1000*1000)^1", "-1000000");
        Check.value(sums, "~(2*z5+1)*(2*z5+1)", "5");
        Check.value(sums, "1+2*(3-(4*(5+(6-(7*(8))))))", "367");
        Check.value(sums, "1-1*(2-2*(3-3*(4-4*(5-5*(6-6*(7-7*8))))))", "-35899");
        Check.value(sums, "1-1*(2-2*(3-3*(4-4*(5-5*(6-6*(7-7*8^1))))))", "-35899");
        Check.value(sums, "1+1*(1+1*(1+1*(1+1*(1+1*(1+1*(1+1*2^2))))))", "11");
        Check.value(sums, "1+1*-(1+1*-(1+1*-(1+1*3^2)))", "-9");
    }
}
