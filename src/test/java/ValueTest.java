/** Promises 12 to 16, 28 and 29: coefficients, what values are like, making, dividing and saying them. */
final class ValueTest {
    private static final int[] WRONG_PLACES = {-1, 8, Integer.MIN_VALUE, Integer.MAX_VALUE};

    public static void main(String[] args) {
        coefficients();
        likeness();
        movedToItself();
        same();
        making();
        wrongMaking();
        makingGreat();
        dividing();
        saying();
        saidStays();
        Check.finish();
    }

    private static void coefficients() {
        CharacterSums sums = Check.over(7, 1);
        Check.tell(sums, 2, "5-3*z11+z1");
        int[] due = {5, 1, 0, 0, 0, 0, 0, 0, 0, 0, 0, -3};
        for (int i = 0; i < 12; i++) {
            int at = i;
            Check.due("coefficient(2, " + at + ")", () -> sums.coefficient(2, at), due[at]);
        }
        for (int i : new int[] {-1, 12, Integer.MIN_VALUE, Integer.MAX_VALUE}) {
            Check.noSuch("coefficient(2, " + i + ")", () -> sums.coefficient(2, i));
        }
        for (int place : WRONG_PLACES) {
            Check.noSuch("coefficient(" + place + ", 0)", () -> sums.coefficient(place, 0));
        }
    }

    /** Tells a text over the field of 7 and looks at all that of() answers. */
    private static void like(String text, long... due) {
        CharacterSums sums = Check.over(7, 1);
        Check.tell(sums, 3, text);
        for (int i = 0; i < 6; i++) {
            int what = i;
            Check.due("of " + what + " of " + text, () -> sums.of(3, what), due[what]);
        }
    }

    private static void likeness() {
        like("0", 0, 1, 1, 1, 0, 5);
        like("-4", 1, 1, 1, 1, -48, 5);
        like("z1", 1, 0, 0, 12, -1, -1);
        // Z to the 36 is Z - Z^8.
        like("z6+z36", 3, 0, 1, 3, -4, 13);
        // -2 Z^11 + 2 Z^9 + 2 Z^8 + 2 Z^4 - 2 Z - 1.
        like("g3.1", 6, 0, 0, 2, 0, 11);
        like("1000*1000", 1, 1, 1, 1, 12000000, 5);
        CharacterSums sums = Check.over(7, 1);
        for (int what : new int[] {-1, 6, Integer.MIN_VALUE, Integer.MAX_VALUE}) {
            Check.noSuch("of(0, " + what + ")", () -> sums.of(0, what));
        }
        for (int place : WRONG_PLACES) {
            for (int i = 0; i < 6; i++) {
                int what = i;
                Check.noSuch("of(" + place + ", " + what + ")", () -> sums.of(place, what));
            }
        }
    }

    private static void movedToItself() {
        CharacterSums two = new CharacterSums();
        Check.tell(two, 0, "7");
        Check.due("of(0, 5) of 2", () -> two.of(0, 5), -1);
        Check.due("of(0, 3) of 2", () -> two.of(0, 3), 1);
        Check.due("of(0, 4) of 2", () -> two.of(0, 4), 7);
        Check.due("of(0, 2) of 2", () -> two.of(0, 2), 1);
        CharacterSums three = Check.over(3, 1);
        Check.tell(three, 0, "z2+z4");
        Check.due("of(0, 5) of 3", () -> three.of(0, 5), 5);
        CharacterSums large = Check.over(23, 1);
        large.make(0, 0, 11, 1, 0);
        Check.due("degree of the root of -23", () -> large.of(0, 3), 2);
        large.make(0, 3, 2, 1, 0);
        Check.due("all that come of a period", () -> large.of(0, 4), -110);
        Check.due("degree of a period", () -> large.of(0, 3), 2);
        large.make(0, 0, 1, 1, 0);
        Check.due("degree of GAUSS 1, 1", () -> large.of(0, 3), 220);
        Check.due("none moves GAUSS 1, 1 to itself", () -> large.of(0, 5), -1);
    }

    private static void same() {
        CharacterSums sums = Check.over(3, 2);
        sums.make(0, 0, 4, 1, 0);
        Check.tell(sums, 7, "3");
        Check.due("same(0, 7)", () -> sums.same(0, 7) ? 1 : 0, 1);
        Check.due("same(7, 7)", () -> sums.same(7, 7) ? 1 : 0, 1);
        Check.due("same(1, 7)", () -> sums.same(1, 7) ? 1 : 0, 0);
        Check.due("same(1, 2)", () -> sums.same(1, 2) ? 1 : 0, 1);
        Check.tell(sums, 1, "3+z7");
        Check.due("same(0, 1)", () -> sums.same(0, 1) ? 1 : 0, 0);
        for (int place : WRONG_PLACES) {
            Check.noSuch("same(" + place + ", 0)", () -> sums.same(place, 0) ? 1 : 0);
            Check.noSuch("same(0, " + place + ")", () -> sums.same(0, place) ? 1 : 0);
        }
    }

    /** Makes a VALUE and compares it with that of a text. */
    private static void madeIs(CharacterSums sums, int[] made, String text) {
        int terms = Check.tell(sums, 6, text);
        String call = "make(5, " + made[0] + ", " + made[1] + ", " + made[2] + ", " + made[3] + ")";
        Check.due(call, () -> sums.make(5, made[0], made[1], made[2], made[3]), terms);
        Check.equal(call, Check.spoken(sums, 5), Check.spoken(sums, 6));
    }

    private static void making() {
        CharacterSums sums = Check.over(7, 1);
        madeIs(sums, new int[] {0, 2, 5, -99}, "z30+z14*z6+z28*z18+z12+z14*z36+z28*z24");
        madeIs(sums, new int[] {0, 0, 0, 99}, "7");
        madeIs(sums, new int[] {1, 3, 3, 1}, "1");
        madeIs(sums, new int[] {1, 2, 4, 0}, "6");
        madeIs(sums, new int[] {2, 1, 1, 99}, "z12+2*z6+2*z36+z30");
        madeIs(sums, new int[] {3, 2, 0, 99}, "z6+z12+z24");
        madeIs(sums, new int[] {3, 2, 1, 99}, "z18+z30+z36");
        Check.tell(sums, 5, "2*z1-z7");
        madeIs(sums, new int[] {4, 5, 5, 99}, "2*z5-z35");
        sums.let(0, 9);
        sums.let(3, -2);
        madeIs(sums, new int[] {5, 0, 99, 99}, "7");
        madeIs(sums, new int[] {5, 2, -1, -1}, "9-2*z36");
        madeIs(sums, new int[] {6, 0, 99, 99}, "7");
        madeIs(sums, new int[] {6, 2, -1, -1}, "-2*z14");
        madeIs(sums, new int[] {7, 0, 99, 99}, "12");
        madeIs(sums, new int[] {7, 1, 99, 99}, "-1");
        madeIs(sums, new int[] {7, 2, 99, 99}, "1");
        madeIs(sums, new int[] {7, 21, 99, 99}, "-12");
        madeIs(sums, new int[] {7, 41, 99, 99}, "-1");
        CharacterSums two = new CharacterSums();
        madeIs(two, new int[] {7, 1, 0, 0}, "-1");
        madeIs(two, new int[] {4, 0, 1, 0}, "0");
    }

    private static void wrongMaking() {
        CharacterSums sums = Check.over(7, 1);
        Check.tell(sums, 5, "z1");
        int[][] wrong = {
            {8, 0, 1, 1, 0}, {-1, 0, 1, 1, 0}, {5, -1, 0, 0, 0}, {5, 8, 0, 0, 0}, {5, Integer.MIN_VALUE, 0, 0, 0},
            {5, 0, 6, 1, 0}, {5, 0, -1, 1, 0}, {5, 0, 1, 7, 0}, {5, 0, 1, -1, 0},
            {5, 1, 6, 1, 1}, {5, 1, 1, 6, 1}, {5, 1, 1, 1, 7}, {5, 1, -1, 1, 1}, {5, 1, 1, -1, 1}, {5, 1, 1, 1, -1},
            {5, 2, 7, 1, 0}, {5, 2, 1, 7, 0}, {5, 2, -1, 1, 0}, {5, 2, 1, -1, 0},
            {5, 3, 0, 0, 0}, {5, 3, 4, 0, 0}, {5, 3, -1, 0, 0}, {5, 3, 12, 0, 0}, {5, 3, 2, 2, 0}, {5, 3, 2, -1, 0},
            {5, 4, 8, 1, 0}, {5, 4, -1, 1, 0}, {5, 4, 5, 0, 0}, {5, 4, 5, 7, 0}, {5, 4, 5, 43, 0}, {5, 4, 5, -1, 0},
            {5, 5, 7, 0, 0}, {5, 5, -1, 0, 0}, {5, 6, 6, 0, 0}, {5, 6, -1, 0, 0}, {5, 7, 42, 0, 0}, {5, 7, -1, 0, 0}
        };
        for (int[] one : wrong) {
            Check.due("make(" + one[0] + ", " + one[1] + ", " + one[2] + ", " + one[3] + ", " + one[4] + ")",
                () -> sums.make(one[0], one[1], one[2], one[3], one[4]), -1);
        }
        Check.equal("place 5", Check.spoken(sums, 5), "z");
    }

    private static void makingGreat() {
        CharacterSums sums = Check.over(5, 1);
        Check.tell(sums, 0, "1000*1000*(z6+z4)");
        Check.tell(sums, 1, "z1");
        Check.due("make(1, 4, 0, 3, 0)", () -> sums.make(1, 4, 0, 3, 0), -2);
        Check.due("make(0, 4, 0, 3, 0)", () -> sums.make(0, 4, 0, 3, 0), -2);
        Check.due("make(0, 4, 0, 2, 0)", () -> sums.make(0, 4, 0, 2, 0), -1);
        Check.equal("place 0", Check.spoken(sums, 0), "1000000z6+1000000z4");
        Check.equal("place 1", Check.spoken(sums, 1), "z");
        Check.due("what is GREAT when moved is looked at all the same", () -> sums.of(0, 3), 4);
    }

    private static void dividing() {
        CharacterSums sums = Check.over(5, 1);
        Check.tell(sums, 0, "6*z7-4*z1+2");
        Check.due("divide(1, 0, 2)", () -> sums.divide(1, 0, 2), 3);
        Check.equal("place 1", Check.spoken(sums, 1), "3z7-2z+1");
        Check.equal("place 0", Check.spoken(sums, 0), "6z7-4z+2");
        Check.due("divide(0, 0, -2)", () -> sums.divide(0, 0, -2), 3);
        Check.equal("place 0", Check.spoken(sums, 0), "-3z7+2z-1");
        for (int v : new int[] {0, 2, 3, -3, 7, Integer.MIN_VALUE, Integer.MAX_VALUE}) {
            Check.due("divide(0, 0, " + v + ")", () -> sums.divide(0, 0, v), -1);
            Check.due("divide(1, 0, " + v + ")", () -> sums.divide(1, 0, v), -1);
        }
        Check.equal("place 0", Check.spoken(sums, 0), "-3z7+2z-1");
        Check.equal("place 1", Check.spoken(sums, 1), "3z7-2z+1");
        for (int place : WRONG_PLACES) {
            Check.due("divide(" + place + ", 0, 1)", () -> sums.divide(place, 0, 1), -1);
            Check.due("divide(0, " + place + ", 1)", () -> sums.divide(0, place, 1), -1);
        }
        Check.tell(sums, 2, "4*z7+4*z1+1");
        Check.due("divide(1, 2, 4)", () -> sums.divide(1, 2, 4), -1);
        Check.tell(sums, 2, "z7+4*z1+4");
        Check.due("divide(1, 2, 2)", () -> sums.divide(1, 2, 2), -1);
        Check.equal("place 1", Check.spoken(sums, 1), "3z7-2z+1");
        Check.due("0 by the least", () -> sums.divide(0, 4, Integer.MIN_VALUE), 0);
        Check.due("0 by 0", () -> sums.divide(1, 4, 0), -1);
        Check.due("of(0, 0)", () -> sums.of(0, 0), 0);
    }

    private static void saying() {
        CharacterSums sums = Check.over(23, 1);
        String[] texts = {"0", "1", "-1", "12", "z", "-z", "z2", "-z219", "z219+1", "z+1", "z219-1", "-z219-z+1", "2z219-2z",
            "1000000z100+z-1000000", "10z10-10z+10", "-1000000"};
        for (String text : texts) {
            Check.equal("say", told(sums, text), text);
        }
        for (int place : WRONG_PLACES) {
            Check.noSuch("say(" + place + ")", () -> sums.say(place));
        }
    }

    /** Writes what should be SAID as an EXPR, tells it and has it SAID. */
    private static String told(CharacterSums sums, String due) {
        String signed = "0+" + due.replaceAll("z(?![0-9])", "z1").replaceAll("([0-9]+)z", "$1*z");
        String text = signed.replace("0+-", "0-").replace("1000000", "1000*1000");
        int answer = Check.tell(sums, 4, text);
        return answer < 0 ? "" + answer : Check.spoken(sums, 4);
    }

    private static void saidStays() {
        CharacterSums sums = Check.over(5, 1);
        Check.due("said(0)", () -> sums.said(0), -1);
        Check.tell(sums, 0, "12*z3-1");
        Check.due("say(0)", () -> sums.say(0), 6);
        Check.tell(sums, 0, "4");
        sums.field(2, 1);
        Check.noSuch("say(8)", () -> sums.say(8));
        String due = "12z3-1";
        for (int i = 0; i < 6; i++) {
            int at = i;
            Check.due("said(" + at + ")", () -> sums.said(at), due.charAt(at));
        }
        for (int i : new int[] {-1, 6, 7, Integer.MIN_VALUE, Integer.MAX_VALUE}) {
            Check.due("said(" + i + ")", () -> sums.said(i), -1);
        }
        Check.due("say(1)", () -> sums.say(1), 1);
        Check.due("said(0)", () -> sums.said(0), '0');
        Check.due("said(1)", () -> sums.said(1), -1);
    }
}
