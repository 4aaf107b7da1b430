import java.util.Arrays;
import java.util.Random;

/**
 * Runs of chance calls (always the same ones), on the class and on the model side by side. A number
 * told to main() makes as many runs.
 */
final class ModelTest {
    private static final int[][] FIELDS = {
        {2, 1}, {2, 2}, {2, 3}, {2, 4}, {3, 1}, {3, 2}, {3, 3}, {5, 1}, {5, 2}, {7, 1}, {11, 1}, {13, 1},
        {17, 1}, {19, 1}, {23, 1}
    };
    private static final int RUNS = 240;
    private static final int CALLS = 512;
    private static final String SIGNS = "0123456789zgjkpm#.()+-*^~ \n";

    private final Random chance;
    private final String run;
    private final CharacterSums sums = new CharacterSums();
    private final Model model = new Model();
    private int called = 0;

    private ModelTest(int seed) {
        chance = new Random(seed);
        run = "run " + seed;
    }

    public static void main(String[] args) {
        int runs = args.length > 0 ? Integer.parseInt(args[0]) : RUNS;
        for (int seed = 0; seed < runs; seed++) {
            new ModelTest(seed).goOn();
        }
        Check.finish();
    }

    private void goOn() {
        int[] first = FIELDS[chance.nextInt(FIELDS.length)];
        both("field(" + first[0] + ", " + first[1] + ")", () -> sums.field(first[0], first[1]),
            () -> model.field(first[0], first[1]));
        while (called < CALLS) {
            step();
        }
    }

    private void both(String call, Check.Call one, Check.Call other) {
        called++;
        if (called <= CALLS) {
            Check.equal(run + " call " + called + " q " + model.q + " " + call, Check.outcome(one), Check.outcome(other));
        }
    }

    /** Mostly 0 to limit - 1, now and then beyond. */
    private int some(int limit) {
        int kind = chance.nextInt(24);
        if (kind == 0) {
            return limit;
        }
        if (kind == 1) {
            return -1;
        }
        if (kind == 2) {
            int[] wild = {Integer.MIN_VALUE, Integer.MAX_VALUE, -2, limit + 1, 31, 32, 1 << 30};
            return wild[chance.nextInt(wild.length)];
        }
        return chance.nextInt(Math.max(limit, 1));
    }

    private int element() {
        return some(model.q);
    }

    private int character() {
        return some(model.q - 1);
    }

    private int place() {
        return some(8);
    }

    private int divisor() {
        int e = 1 + chance.nextInt(model.q);
        return chance.nextInt(8) == 0 ? some(model.q + 2) : (model.q - 1) % e == 0 ? e : model.q - 1;
    }

    private int moving() {
        int a = some(model.n);
        for (int i = 0; i < 10 && chance.nextInt(8) != 0 && !model.moving(a); i++) {
            a = some(model.n);
        }
        return a;
    }

    private int exponent() {
        return some(34);
    }

    private int set() {
        int kind = chance.nextInt(8);
        return kind == 0 ? chance.nextInt() : kind == 1 ? 1 << model.q : chance.nextInt() & (1 << model.q) - 1;
    }

    private void step() {
        switch (chance.nextInt(12)) {
            case 0: case 1: case 2: case 3: texts(); break;
            case 4: case 5: makings(); break;
            case 6: case 7: values(); break;
            case 8: elements(); break;
            case 9: equations(); break;
            case 10: weights(); break;
            default: rest(); break;
        }
    }

    private void rest() {
        if (chance.nextInt(6) == 0) {
            int[] next = FIELDS[chance.nextInt(FIELDS.length)];
            int p = chance.nextInt(4) == 0 ? some(30) : next[0];
            int k = chance.nextInt(4) == 0 ? some(6) : next[1];
            both("field(" + p + ", " + k + ")", () -> sums.field(p, k), () -> model.field(p, k));
        }
        int what = some(8);
        both("count(" + what + ")", () -> sums.count(what), () -> model.count(what));
        both("fault()", sums::fault, model::fault);
        int i = some(30);
        both("said(" + i + ")", () -> sums.said(i), () -> model.said(i));
    }

    private void elements() {
        int how = some(4);
        int x = element();
        int y = element();
        int j = character();
        both("element(" + how + ", " + x + ", " + y + ")", () -> sums.element(how, x, y), () -> model.element(how, x, y));
        both("log(" + x + ")", () -> sums.log(x), () -> model.log(x));
        both("trace(" + y + ")", () -> sums.trace(y), () -> model.trace(y));
        both("character(" + j + ", " + x + ")", () -> sums.character(j, x), () -> model.character(j, x));
        both("order(" + j + ")", () -> sums.order(j), () -> model.order(j));
        int i = chance.nextInt(9) - 3;
        both("least(" + x + ", " + i + ")", () -> sums.least(x, i), () -> model.least(x, i));
        int e = divisor();
        int a = some(e);
        int b = some(e);
        both("cyclotomic(" + e + ", " + a + ", " + b + ")", () -> sums.cyclotomic(e, a, b), () -> model.cyclotomic(e, a, b));
    }

    private void equations() {
        int a = element();
        int b = element();
        int c = element();
        int d = exponent();
        int e = exponent();
        both("solutions(" + a + ", " + d + ", " + b + ", " + e + ", " + c + ")",
            () -> sums.solutions(a, d, b, e, c), () -> model.solutions(a, d, b, e, c));
        both("curve(" + a + ", " + b + ")", () -> sums.curve(a, b), () -> model.curve(a, b));
        int n = some(7);
        both("rows(" + n + ", " + d + ", " + c + ")", () -> sums.rows(n, d, c), () -> model.rows(n, d, c));
        int g = divisor();
        int h = divisor();
        int s = some(model.q < 6 ? 8 : 4);
        both("lifted(" + g + ", " + h + ", " + s + ")", () -> sums.lifted(g, h, s), () -> model.lifted(g, h, s));
        int f = exponent();
        if (chance.nextInt(4) == 0) {
            both("points(" + d + ", " + e + ", " + f + ", " + c + ")",
                () -> sums.points(d, e, f, c), () -> model.points(d, e, f, c));
        }
    }

    private void weights() {
        for (int i = 0; i < 3; i++) {
            int x = element();
            int v = chance.nextInt(6) == 0 ? some(100) : chance.nextInt(203) - 101;
            both("let(" + x + ", " + v + ")", () -> sums.let(x, v), () -> model.let(x, v));
        }
        int y = element();
        both("alike(" + y + ")", () -> sums.alike(y), () -> model.alike(y));
        int set = set();
        both("differences(" + set + ")", () -> sums.differences(set), () -> model.differences(set));
        if (chance.nextInt(4) == 0) {
            both("mark(" + set + ")", () -> sums.mark(set), () -> model.mark(set));
        }
    }

    private void makings() {
        int place = place();
        int how = some(8);
        int[] ways = {character(), character(), element(), divisor(), place(), element(), character(), some(model.n)};
        int a = how >= 0 && how < 8 ? ways[how] : 0;
        int[] seconds = {element(), character(), element(), some(a), moving(), some(9), some(9), some(9)};
        int b = how >= 0 && how < 8 ? seconds[how] : 0;
        int c = element();
        both("make(" + place + ", " + how + ", " + a + ", " + b + ", " + c + ")",
            () -> sums.make(place, how, a, b, c), () -> model.make(place, how, a, b, c));
        look(place);
    }

    private void look(int place) {
        int i = some(model.d);
        both("coefficient(" + place + ", " + i + ")", () -> sums.coefficient(place, i), () -> model.coefficient(place, i));
        both("say(" + place + ")", () -> sums.say(place), () -> model.say(place));
        if (chance.nextInt(3) == 0) {
            equalSpeech();
        }
    }

    /** These calls don't count against the 512, for they change nothing. */
    private void equalSpeech() {
        StringBuilder one = new StringBuilder();
        StringBuilder other = new StringBuilder();
        for (int i = 0; called <= CALLS && i < 3000; i++) {
            one.append((char) (sums.said(i) & 255));
            other.append((char) (model.said(i) & 255));
        }
        Check.equal(run + " call " + called + " said", one.toString(), other.toString());
    }

    private void values() {
        int i = place();
        int j = place();
        int what = some(6);
        both("of(" + i + ", " + what + ")", () -> sums.of(i, what), () -> model.of(i, what));
        both("same(" + i + ", " + j + ")", () -> sums.same(i, j) ? 1 : 0, () -> model.same(i, j) ? 1 : 0);
        if (chance.nextInt(3) == 0) {
            int place = place();
            int v = chance.nextInt(9) - 4;
            both("divide(" + place + ", " + i + ", " + v + ")", () -> sums.divide(place, i, v), () -> model.divide(place, i, v));
            look(place);
        }
    }

    private void texts() {
        String text = chance.nextInt(6) == 0 ? deep(1 + chance.nextInt(7)) : expression(1 + chance.nextInt(4));
        if (text.length() > 200) {
            text = text.substring(0, 200);
        }
        byte[] bytes = text.getBytes(java.nio.charset.StandardCharsets.ISO_8859_1);
        if (chance.nextInt(3) == 0) {
            spoil(bytes);
        }
        for (int at = 0; at < bytes.length; at += 20) {
            int[] five = new int[5];
            for (int i = 0; i < 20; i++) {
                five[i / 4] = five[i / 4] << 8 | (at + i < bytes.length ? bytes[at + i] & 255 : 32);
            }
            both("feed(" + Arrays.toString(five) + ")",
                () -> sums.feed(five[0], five[1], five[2], five[3], five[4]), () -> model.feed(five));
        }
        int place = place();
        int n = chance.nextInt(20) == 0 ? some(250) : bytes.length;
        both("tell(" + place + ", " + n + ") of " + text, () -> sums.tell(place, n), () -> model.tell(place, n));
        both("fault()", sums::fault, model::fault);
        look(place);
    }

    private void spoil(byte[] bytes) {
        for (int i = chance.nextInt(3); i >= 0 && bytes.length > 0; i--) {
            int sign = chance.nextInt(12) == 0 ? chance.nextInt(256) : SIGNS.charAt(chance.nextInt(SIGNS.length()));
            bytes[chance.nextInt(bytes.length)] = (byte) sign;
        }
    }

    private String blank() {
        int kind = chance.nextInt(20);
        return kind == 0 ? " " : kind == 1 ? "\n" : "";
    }

    /** Many openings one in the other, about as many as may be open at once. */
    private String deep(int openings) {
        String within = openings == 0 ? expression(chance.nextInt(2)) : deep(openings - 1);
        String behind = chance.nextInt(4) == 0 ? "*" + chance.nextInt(2000) : "";
        if (within.indexOf('+') >= 0 || chance.nextInt(2) == 0) {
            return "(" + within + blank() + ")" + behind;
        }
        String[] ahead = {"-", "~", "m" + moving() + "."};
        return ahead[chance.nextInt(3)] + within + behind;
    }

    private String expression(int depth) {
        StringBuilder all = new StringBuilder(term(depth));
        while (chance.nextInt(3) == 0) {
            all.append(blank()).append(chance.nextBoolean() ? "+" : "-").append(blank()).append(term(depth));
        }
        return all.toString();
    }

    private String term(int depth) {
        StringBuilder all = new StringBuilder(factor(depth));
        while (chance.nextInt(4) == 0) {
            all.append(blank()).append("*").append(blank()).append(factor(depth));
        }
        return all.toString();
    }

    private String factor(int depth) {
        String power = chance.nextInt(4) == 0 ? "^" + blank() + figures(chance.nextInt(4) == 0 ? some(22) : chance.nextInt(4)) : "";
        return atom(depth) + power;
    }

    private String figures(int number) {
        return (chance.nextInt(20) == 0 ? "00" : "") + (number == Integer.MIN_VALUE ? 0 : Math.abs(number));
    }

    private String atom(int depth) {
        int kind = chance.nextInt(depth > 0 ? 12 : 7);
        String point = blank() + "." + blank();
        switch (kind) {
            case 0: return figures(chance.nextInt(3) == 0 ? chance.nextInt(10050) : chance.nextInt(12));
            case 1: return "z" + blank() + figures(some(model.n));
            case 2: return "g" + figures(character()) + point + figures(element());
            case 3: return "j" + figures(character()) + point + figures(character()) + point + figures(element());
            case 4: return "k" + figures(element()) + point + figures(element());
            case 5:
                int e = divisor();
                return "p" + figures(e) + point + figures(some(e));
            case 6: return "#" + figures(place());
            case 7: case 8: return "(" + expression(depth - 1) + blank() + ")";
            case 9: return "-" + blank() + atom(depth - 1 + chance.nextInt(2));
            case 10: return "~" + blank() + atom(depth - 1 + chance.nextInt(2));
            default: return "m" + figures(moving()) + point + atom(depth - 1 + chance.nextInt(2));
        }
    }
}
