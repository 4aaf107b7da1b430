/** Promises 3 to 5: the tape, texts with what they are worth, and their faults. */
final class TextTest {
    public static void main(String[] args) {
        feeding();
        wrongTellings();
        tellingEmptiesTheTape();
        atoms();
        signs();
        powers();
        movings();
        sums();
        wrongTokens();
        wrongNumbers();
        tooDeep();
        firstFaultCounts();
        great();
        latestFault();
        Check.finish();
    }

    private static void feeding() {
        CharacterSums sums = new CharacterSums();
        for (int i = 1; i <= 10; i++) {
            Check.due("feed " + i, () -> sums.feed(0x31313131, 1, 2, 3, 4), 20 * i);
        }
        Check.due("feed 11", () -> sums.feed(0, 0, 0, 0, 0), -1);
        Check.due("bytes", () -> sums.count(7), 200);
        sums.field(3, 1);
        Check.due("feed 12", () -> sums.feed(0, 0, 0, 0, 0), -1);
        Check.due("tell(0, 3)", () -> sums.tell(0, 3), 1);
        Check.due("coefficient(0, 0)", () -> sums.coefficient(0, 0), 111);
        Check.due("feed 13", () -> sums.feed(0x312b3220, 0x20202020, 0x20202020, 0x20202020, 0x2020202b), 20);
        Check.due("feed 14", () -> sums.feed(0x34202020, 0x20202020, 0x20202020, 0x20202020, 0xff202020), 40);
        Check.due("tell(1, 36)", () -> sums.tell(1, 36), 1);
        Check.due("coefficient(1, 0)", () -> sums.coefficient(1, 0), 7);
        sums.feed(0xff202020, 0, 0, 0, 0);
        Check.due("a byte above 127", () -> sums.tell(1, 1), -11);
    }

    private static void wrongTellings() {
        CharacterSums sums = Check.over(5, 1);
        sums.feed(0x31202020, 0x20202020, 0x20202020, 0x20202020, 0x20202020);
        for (int place : new int[] {-1, 8, Integer.MIN_VALUE, Integer.MAX_VALUE}) {
            Check.illegal("tell(" + place + ", 1)", () -> sums.tell(place, 1));
        }
        for (int n : new int[] {-1, 21, Integer.MIN_VALUE, Integer.MAX_VALUE}) {
            Check.illegal("tell(0, " + n + ")", () -> sums.tell(0, n));
        }
        Check.due("the tape stays", () -> sums.count(7), 20);
        Check.due("fault()", sums::fault, -1);
        Check.due("tell(0, 20)", () -> sums.tell(0, 20), 1);
    }

    private static void tellingEmptiesTheTape() {
        CharacterSums sums = Check.over(5, 1);
        for (String text : new String[] {"1", "+", "99999", "9999*9999", "((((((("}) {
            Check.tell(sums, 0, text);
            Check.due("bytes behind " + text, () -> sums.count(7), 0);
        }
        Check.due("tell(0, 0)", () -> sums.tell(0, 0), -11);
        Check.due("fault()", sums::fault, 0);
        Check.illegal("tell(0, 1)", () -> sums.tell(0, 1));
    }

    private static void atoms() {
        CharacterSums sums = Check.over(7, 1);
        Check.value(sums, "0", "0");
        Check.value(sums, "9999", "9999");
        Check.value(sums, "007", "7");
        Check.value(sums, "00000000000000000000000000009999", "9999");
        Check.value(sums, "z0", "1");
        Check.value(sums, "z1", "z");
        Check.value(sums, "z11", "z11");
        Check.value(sums, "z12", "-z11+z9+z8-z6+z4+z3-z-1");
        Check.value(sums, "z21", "-1");
        Check.value(sums, "z41*z1", "1");
        Check.value(sums, "g3.1^2", "-7");
        Check.value(sums, "g0.0", "7");
        Check.value(sums, "g0.3", "0");
        Check.value(sums, "g5.0", "0");
        Check.value(sums, "g1.1*~g1.1", "7");
        Check.value(sums, "j0.0.4", "7");
        Check.value(sums, "j0.5.4", "0");
        Check.value(sums, "j2.4.1", "-1");
        Check.value(sums, "j1.5.1", "1");
        Check.value(sums, "j2.4.0", "6");
        Check.value(sums, "j2.3.1*g5.1-g2.1*g3.1", "0");
        Check.value(sums, "k0.0", "6");
        Check.value(sums, "k4.0", "-1");
        Check.value(sums, "k0.4", "-1");
        Check.value(sums, "k1.6-~k1.6", "0");
        Check.value(sums, "p1.0", "-1");
        Check.value(sums, "p3.1^3+p3.1^2-2*p3.1-1", "0");
        Check.value(sums, "p2.0^2+p2.0+2", "0");
        Check.value(sums, "p6.0-z6", "0");
        Check.tell(sums, 3, "z5+2");
        Check.value(sums, "#3", "z5+2");
        Check.value(sums, "#7", "0");
        Check.value(sums, "\n ( # 3 ) ", "z5+2");
    }

    private static void signs() {
        CharacterSums sums = Check.over(5, 1);
        Check.value(sums, "1-2-3", "-4");
        Check.value(sums, "1-2+3", "2");
        Check.value(sums, "2+3*4", "14");
        Check.value(sums, "(2+3)*4", "20");
        Check.value(sums, "2--3", "5");
        Check.value(sums, "2-~-3", "5");
        Check.value(sums, "2*-3", "-6");
        Check.value(sums, "----3", "3");
        Check.value(sums, "-2^2", "4");
        Check.value(sums, "1-2^2", "-3");
        Check.value(sums, "-(1+2)^2", "9");
        Check.value(sums, "-z1*z1", "-z2");
        Check.value(sums, "z5*z5", "-1");
        Check.tell(sums, 0, "3");
        Check.value(sums, "#0+#0*#0", "12");
        Check.value(sums, "#0", "12");
    }

    private static void powers() {
        CharacterSums sums = Check.over(5, 1);
        Check.value(sums, "0^0", "1");
        Check.value(sums, "z1^0", "1");
        Check.value(sums, "7^1", "7");
        Check.value(sums, "1^20", "1");
        Check.value(sums, "z1^20", "1");
        Check.value(sums, "z7^ 3", "z");
        Check.value(sums, "10^6", "1000000");
        Check.value(sums, "-10^6", "1000000");
        Check.value(sums, "-(10^6)", "-1000000");
        Check.value(sums, "2^3*2", "16");
        Check.value(sums, "(2^3)^2", "64");
    }

    private static void movings() {
        CharacterSums sums = Check.over(5, 1);
        Check.value(sums, "~z1", "-z7+z5-z3+z");
        Check.value(sums, "~z1*z1", "1");
        Check.value(sums, "m3.z1", "z3");
        Check.value(sums, "m3.z1^2", "z6");
        Check.value(sums, "m3.(z1+z2)", "z6+z3");
        Check.value(sums, "m3.m7.z1-m1.z1", "0");
        Check.value(sums, "m 3 . - z 1", "-z3");
        Check.value(sums, "m19.z2-~z2", "0");
        Check.value(sums, "m3.g2.1+g2.1", "0");
        Check.value(new CharacterSums(), "m1.z1", "-1");
    }

    private static void sums() {
        CharacterSums nine = Check.over(3, 2);
        Check.value(nine, "g4.1", "3");
        CharacterSums more = Check.over(3, 3);
        Check.value(more, "g13.1^2", "-27");
        CharacterSums large = Check.over(5, 2);
        Check.value(large, "g12.1", "-5");
        CharacterSums four = Check.over(2, 2);
        Check.value(four, "k1.1", "3");
        Check.value(four, "g1.1", "2");
        CharacterSums two = new CharacterSums();
        Check.value(two, "k1.1", "1");
        Check.value(two, "g0.1+10*g0.0", "20");
        Check.value(two, "z1", "-1");
        Check.value(two, "p1.0", "-1");
        Check.value(two, "j0.0.1", "2");
        CharacterSums thirteen = Check.over(13, 1);
        Check.value(thirteen, "p3.0^3+p3.0^2-4*p3.0+1", "0");
        Check.value(thirteen, "g6.1^2", "13");
        CharacterSums largest = Check.over(23, 1);
        Check.value(largest, "g11.1^2", "-23");
        Check.value(largest, "g1.1*g21.1", "-23");
        Check.value(largest, "g1.1^2-j1.1.1*g2.1", "0");
    }

    private static void wrongTokens() {
        CharacterSums sums = Check.over(5, 1);
        String[] atEnd = {"", "  ", "1+", "1- ", "2*\n", "(", "(1", "(1+", "z", "g", "g1", "g1.", "j1.1", "j1.1.", "#", "-",
            "~", "m", "m3", "m3.", "2^", "k1.", "p2 .", "1+(2*(3)"};
        for (String text : atEnd) {
            Check.faulty(sums, text, 1, text.length());
        }
        Check.faulty(sums, "+1", 1, 0);
        Check.faulty(sums, ")", 1, 0);
        Check.faulty(sums, "()", 1, 1);
        Check.faulty(sums, "1)", 1, 1);
        Check.faulty(sums, "1 2", 1, 2);
        Check.faulty(sums, "(1)2", 1, 3);
        Check.faulty(sums, "z z", 1, 2);
        Check.faulty(sums, "Z1", 1, 0);
        Check.faulty(sums, "g1,1", 1, 2);
        Check.faulty(sums, "g1 1", 1, 3);
        Check.faulty(sums, "g1.1.1", 1, 4);
        Check.faulty(sums, "j1.1.1.1", 1, 6);
        Check.faulty(sums, "z1.1", 1, 2);
        Check.faulty(sums, "2^2^2", 1, 3);
        Check.faulty(sums, "2^-1", 1, 2);
        Check.faulty(sums, "2^(1)", 1, 2);
        Check.faulty(sums, "2**3", 1, 2);
        Check.faulty(sums, "1+*3", 1, 2);
        Check.faulty(sums, "m(3).1", 1, 1);
        Check.faulty(sums, "m3 1", 1, 3);
        Check.faulty(sums, "1\t+2", 1, 1);
        Check.faulty(sums, "1\r", 1, 1);
        Check.faulty(sums, "1" + (char) 0, 1, 1);
        Check.faulty(sums, "1" + (char) 160, 1, 1);
        Check.faulty(sums, "1" + (char) 178, 1, 1);
        Check.faulty(sums, "#-1", 1, 1);
        Check.faulty(sums, "99999 99999", 2, 0);
        Check.faulty(sums, "1 99999", 1, 2);
    }

    private static void wrongNumbers() {
        CharacterSums sums = Check.over(5, 1);
        Check.faulty(sums, "10000", 2, 0);
        Check.faulty(sums, " 4294967297", 2, 1);
        Check.faulty(sums, "18446744073709551617", 2, 0);
        Check.faulty(sums, "z20", 2, 1);
        Check.faulty(sums, "z10000", 2, 1);
        Check.faulty(sums, "z4294967297", 2, 1);
        Check.faulty(sums, "g4.1", 2, 1);
        Check.faulty(sums, "g3.5", 2, 3);
        Check.faulty(sums, "j4.1.1", 2, 1);
        Check.faulty(sums, "j1.4.1", 2, 3);
        Check.faulty(sums, "j1.1.5", 2, 5);
        Check.faulty(sums, "k5.1", 2, 1);
        Check.faulty(sums, "k1.5", 2, 3);
        Check.faulty(sums, "p0.0", 2, 1);
        Check.faulty(sums, "p3.0", 2, 1);
        Check.faulty(sums, "p8.0", 2, 1);
        Check.faulty(sums, "p2.2", 2, 3);
        Check.faulty(sums, "p1.1", 2, 3);
        Check.faulty(sums, "#8", 2, 1);
        Check.faulty(sums, "2^21", 2, 2);
        Check.faulty(sums, "m0.1", 2, 1);
        Check.faulty(sums, "m2.1", 2, 1);
        Check.faulty(sums, "m5.1", 2, 1);
        Check.faulty(sums, "m20.1", 2, 1);
        Check.faulty(sums, "m21.1", 2, 1);
        CharacterSums two = new CharacterSums();
        Check.faulty(two, "g1.0", 2, 1);
        Check.faulty(two, "m0.1", 2, 1);
        Check.faulty(two, "z2", 2, 1);
    }

    private static void tooDeep() {
        CharacterSums sums = Check.over(5, 1);
        Check.value(sums, "((((((1))))))", "1");
        Check.faulty(sums, "(((((((1)))))))", 3, 6);
        Check.value(sums, "1+1*(1+1*(1+1*(1+1*(1+1*(1+1*(1+1*2^2))))))", "11");
        Check.faulty(sums, "1+1*(1+1*(1+1*(1+1*(1+1*(1+1*(1+1*-2^3))))))", 3, 34);
        Check.value(sums, "------1", "1");
        Check.faulty(sums, "-------1", 3, 6);
        Check.value(sums, "~~~~~~1", "1");
        Check.faulty(sums, "~~~~~~~1", 3, 6);
        Check.value(sums, "m3.m3.m3.m3.m3.m3.z1-z9", "0");
        Check.faulty(sums, "m3.m3.m3.m3.m3.m3.m3.z1", 3, 18);
        Check.value(sums, "(-(~(m1.1)))", "-1");
        Check.faulty(sums, "(-(~(m1.(1)))", 3, 8);
        Check.value(sums, "((((((1)+(2))-(-3))))*2)", "12");
        Check.value(sums, "(((((1+-2)--3)))*2)", "4");
        Check.value(sums, "(((((-1-2-3)))))", "-6");
        Check.value(sums, "((((-1^2*-3+-(2)))))", "-5");
        Check.faulty(sums, "((((((-1))))))", 3, 6);
        Check.value(sums, "(((((-1-(1))))))", "-2");
        Check.faulty(sums, "(((((-1^2*-3+-(2))))))", 3, 14);
        Check.faulty(sums, "((((((1+2*3^2", 1, 13);
    }

    private static void firstFaultCounts() {
        CharacterSums sums = Check.over(5, 1);
        Check.faulty(sums, "z20+", 2, 1);
        Check.faulty(sums, "1+(z)z20", 1, 4);
        Check.faulty(sums, "((((((m0.1", 3, 6);
        Check.faulty(sums, "(((((m0.(1", 2, 6);
        Check.faulty(sums, "((((((1(", 1, 7);
        Check.faulty(sums, "9999*9999*9999+", 1, 15);
    }

    private static void great() {
        CharacterSums sums = Check.over(5, 1);
        Check.tell(sums, 0, "z3");
        Check.value(sums, "1000*1000", "1000000");
        Check.tell(sums, 0, "z3");
        String[] texts = {"1000*1000+1", "-1000*1000-1", "1000*1000+1-1", "1000*1001*0", "101^3", "10^7", "(10^7)^0",
            "9999*101", "(1000*1000+z1)*2-(1000*1000+z1)*2", "0*(10^6+1)", "(1000*1000*z1)^2*0"};
        for (String text : texts) {
            int answer = Check.tell(sums, 0, text);
            Check.equal(text, answer + " " + sums.fault() + " " + Check.spoken(sums, 0), "-2 -1 z3");
        }
        Check.value(sums, "-(1000*1000)", "-1000000");
        Check.value(sums, "1000*1000*z1-1000*1000*z2", "-1000000z2+1000000z");
        // Z to the 8 is Z^6 - Z^4 + Z^2 - 1, so that a MOVING and a root can make a VALUE GREAT.
        Check.value(sums, "1000*1000*(z6+z4)", "1000000z6+1000000z4");
        Check.value(sums, "m3.(1000*1000*(z6+z4))", "-2");
        Check.value(sums, "m3.(500*1000*(z6+z4))", "-500000z6+500000z4-1000000z2+500000");
        Check.value(sums, "500*1000*z6+500*1000*z8", "1000000z6-500000z4+500000z2-500000");
        Check.value(sums, "1000*1000*z6+z8", "-2");
    }

    private static void latestFault() {
        CharacterSums sums = Check.over(5, 1);
        Check.faulty(sums, "1+", 1, 2);
        Check.illegal("tell(9, 0)", () -> sums.tell(9, 0));
        Check.due("fault()", sums::fault, 2);
        Check.tell(sums, 0, "10^9");
        Check.due("fault()", sums::fault, -1);
        Check.faulty(sums, "#9", 2, 1);
        Check.tell(sums, 0, "1");
        Check.due("fault()", sums::fault, -1);
    }
}
