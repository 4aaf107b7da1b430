import java.nio.charset.StandardCharsets;

/** What the tests share: they tell each answer that isn't as due, and end with 1 if there was one. */
final class Check {
    private static final int MOST_TOLD = 40;
    private static int asked = 0;
    private static int wrong = 0;

    interface Call {
        long answer();
    }

    private Check() {
    }

    static void due(String what, Call call, long want) {
        String got = outcome(call);
        equal(what, got, Long.toString(want));
    }

    static void noSuch(String what, Call call) {
        equal(what, outcome(call), "throws.NoSuchElementException");
    }

    static void illegal(String what, Call call) {
        equal(what, outcome(call), "throws.IllegalArgumentException");
    }

    static void equal(String what, String got, String want) {
        asked++;
        if (!got.equals(want)) {
            wrong++;
            if (wrong <= MOST_TOLD) {
                System.out.println(what + " answered " + got + ", due is " + want);
            }
        }
    }

    /** The answer as a text, or throws. and the exception's name. */
    static String outcome(Call call) {
        try {
            return Long.toString(call.answer());
        } catch (RuntimeException thrown) {
            return "throws." + thrown.getClass().getSimpleName();
        }
    }

    /** Feeds a text, behind it blanks till twenty bytes are whole. */
    static void feed(CharacterSums sums, byte[] text) {
        for (int at = 0; at < text.length; at += 20) {
            int[] five = new int[5];
            for (int i = 0; i < 20; i++) {
                int next = at + i < text.length ? text[at + i] & 255 : 32;
                five[i / 4] = five[i / 4] << 8 | next;
            }
            sums.feed(five[0], five[1], five[2], five[3], five[4]);
        }
    }

    /** The same of a text; it is not told yet. */
    static void feed(CharacterSums sums, String text) {
        feed(sums, text.getBytes(StandardCharsets.ISO_8859_1));
    }

    static int tell(CharacterSums sums, int place, String text) {
        byte[] bytes = text.getBytes(StandardCharsets.ISO_8859_1);
        feed(sums, bytes);
        return sums.tell(place, bytes.length);
    }

    /** What a PLACE's VALUE is, as say() and said() tell it. */
    static String spoken(CharacterSums sums, int place) {
        int length = sums.say(place);
        StringBuilder all = new StringBuilder();
        for (int i = 0; i < length; i++) {
            all.append((char) sums.said(i));
        }
        return all.toString();
    }

    /** Tells a text and looks at the VALUE that comes of it. */
    static void value(CharacterSums sums, String text, String want) {
        int answer = tell(sums, 0, text);
        equal(text, answer < 0 ? "" + answer : spoken(sums, 0), want);
    }

    /** Tells a text that has a FAULT. */
    static void faulty(CharacterSums sums, String text, int kind, int place) {
        equal(text, tell(sums, 0, text) + " at " + sums.fault(), (-10 - kind) + " at " + place);
    }

    /** An object of the FIELD of 5 in which all but the tape holds something. */
    static CharacterSums laden() {
        CharacterSums sums = over(5, 1);
        for (int place = 0; place < 8; place++) {
            tell(sums, place, (place + 2) + "*z" + place + "-1");
        }
        for (int x = 0; x < 5; x++) {
            sums.let(x, 3 * x - 7);
        }
        sums.say(6);
        tell(sums, 3, "1+");
        return sums;
    }

    /** A laden object whose tape holds "7-z3" and blanks. */
    static CharacterSums taped() {
        CharacterSums sums = laden();
        feed(sums, "7-z3");
        return sums;
    }

    /** All that calls can tell of an object but what its tape holds. */
    static String state(CharacterSums sums) {
        StringBuilder all = new StringBuilder();
        for (int what = 0; what < 8; what++) {
            all.append(sums.count(what)).append(' ');
        }
        for (int place = 0; place < 8; place++) {
            all.append("| ");
            for (int i = 0; i < sums.count(4); i++) {
                all.append(sums.coefficient(place, i)).append(' ');
            }
        }
        all.append("| F ");
        for (int x = 0; x < sums.count(2); x++) {
            int was = sums.let(x, 0);
            sums.let(x, was);
            all.append(was).append(' ');
        }
        all.append("| fault ").append(sums.fault()).append(" | said ");
        for (int i = 0; sums.said(i) != CharacterSums.NONE; i++) {
            all.append((char) sums.said(i));
        }
        return all.toString();
    }

    interface Calls {
        void on(CharacterSums sums);
    }

    /** Calls that must leave an object as it was, its tape too. */
    static void changeNothing(Calls calls) {
        CharacterSums sums = taped();
        String before = state(sums);
        calls.on(sums);
        equal("the state behind refused calls", state(sums), before);
        due("the tape's length behind refused calls", () -> sums.count(7), 20);
        due("the tape's text behind refused calls", () -> sums.tell(0, 20), 2);
        equal("the tape's VALUE behind refused calls", spoken(sums, 0), "-z3+7");
    }

    static int asked() {
        return asked;
    }

    static int wrong() {
        return wrong;
    }

    static CharacterSums over(int p, int k) {
        CharacterSums sums = new CharacterSums();
        sums.field(p, k);
        return sums;
    }

    static void finish() {
        System.out.println(wrong == 0 ? asked + " answers are as due" : wrong + " of " + asked + " answers are not as due");
        System.exit(wrong == 0 && asked > 0 ? 0 : 1);
    }
}
