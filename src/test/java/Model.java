import java.util.ArrayList;
import java.util.Arrays;
import java.util.HashSet;
import java.util.List;
import java.util.NoSuchElementException;
import java.util.Set;

/**
 * The document once more, in another way than the class does it: by its definitions,
 * with dense long division, and texts read by a machine with two stacks instead of by descent.
 */
final class Model {
    private static final int NONE = -1;
    private static final long BOUND = 1000000;
    private static final List<Integer> PRIMES = List.of(2, 3, 5, 7, 11, 13, 17, 19, 23);

    int p;
    int k;
    int q;
    int n;
    int d;
    int generator;
    int modulus;
    private int[][] products;
    private long[] phi;
    private final long[][] places = new long[8][];
    private int[] f;
    private final List<Integer> tape = new ArrayList<>();
    private int fault = NONE;
    private String said = "";

    Model() {
        enter(2, 1, 2);
    }

    // ---- fields

    int field(int newP, int newK) {
        if (!PRIMES.contains(newP) || newK < 1 || Math.pow(newP, newK) > 27.5) {
            return NONE;
        }
        enter(newP, newK, (int) Math.round(Math.pow(newP, newK)));
        return q;
    }

    private void enter(int newP, int newK, int newQ) {
        p = newP;
        k = newK;
        q = newQ;
        n = p * (q - 1);
        d = 0;
        for (int a = 1; a <= n; a++) {
            d += gcd(a, n) == 1 ? 1 : 0;
        }
        phi = cyclotomic(n);
        if (phi.length != d + 1) {
            throw new AssertionError("degree of the cyclotomic polynomial");
        }
        modulus = findModulus();
        products = new int[q][q];
        for (int[] row : products) {
            Arrays.fill(row, NONE);
        }
        generator = 1;
        while (powersOf(generator).size() != q - 1) {
            generator++;
        }
        for (int i = 0; i < 8; i++) {
            places[i] = new long[d];
        }
        f = new int[q];
    }

    static int gcd(int a, int b) {
        return b == 0 ? a : gcd(b, a % b);
    }

    private int[] digits(int x) {
        int[] all = new int[k];
        for (int i = 0; i < k; i++) {
            all[i] = x % p;
            x /= p;
        }
        return all;
    }

    private int number(int[] digits) {
        int all = 0;
        for (int i = k - 1; i >= 0; i--) {
            all = all * p + Math.floorMod(digits[i], p);
        }
        return all;
    }

    /** Every product of two polynomials with highest coefficient 1 is struck out; the first left is it. */
    private int findModulus() {
        if (k == 1) {
            return 0;
        }
        boolean[] struck = new boolean[q];
        for (int degree = 1; degree < k; degree++) {
            for (int x = 0; x < (int) Math.round(Math.pow(p, degree)); x++) {
                for (int y = 0; y < (int) Math.round(Math.pow(p, k - degree)); y++) {
                    int[] one = digits(x);
                    int[] other = digits(y);
                    one[degree] = 1;
                    other[k - degree] = 1;
                    struck[number(Arrays.copyOf(product(one, other), k))] = true;
                }
            }
        }
        int at = 0;
        while (struck[at]) {
            at++;
        }
        return at;
    }

    private int[] product(int[] one, int[] other) {
        int[] all = new int[one.length + other.length];
        for (int i = 0; i < one.length; i++) {
            for (int j = 0; j < other.length; j++) {
                all[i + j] = (all[i + j] + one[i] * other[j]) % p;
            }
        }
        return all;
    }

    int plus(int x, int y) {
        int[] one = digits(x);
        int[] other = digits(y);
        for (int i = 0; i < k; i++) {
            one[i] += other[i];
        }
        return number(one);
    }

    int minus(int x, int y) {
        int[] one = digits(x);
        int[] other = digits(y);
        for (int i = 0; i < k; i++) {
            one[i] -= other[i];
        }
        return number(one);
    }

    int times(int x, int y) {
        if (products[x][y] == NONE) {
            products[x][y] = divided(x, y);
        }
        return products[x][y];
    }

    private int divided(int x, int y) {
        int[] all = product(digits(x), digits(y));
        int[] low = digits(modulus);
        for (int i = all.length - 1; i >= k; i--) {
            for (int j = 0; j < k; j++) {
                all[i - k + j] = Math.floorMod(all[i - k + j] - all[i] * low[j], p);
            }
            all[i] = 0;
        }
        return number(Arrays.copyOf(all, k));
    }

    int power(int x, int exponent) {
        int all = 1;
        for (int i = 0; i < exponent; i++) {
            all = times(all, x);
        }
        return all;
    }

    int over(int x, int y) {
        for (int z = 0; z < q; z++) {
            if (times(z, y) == x) {
                return z;
            }
        }
        throw new AssertionError("no quotient");
    }

    private Set<Integer> powersOf(int x) {
        Set<Integer> all = new HashSet<>();
        for (int i = 0; i < q; i++) {
            all.add(power(x, i));
        }
        return all;
    }

    int logOf(int x) {
        int i = 0;
        while (power(generator, i) != x) {
            i++;
        }
        return i;
    }

    int traceOf(int x) {
        int all = 0;
        for (int i = 0, exponent = 1; i < k; i++, exponent *= p) {
            all = plus(all, power(x, exponent));
        }
        return all;
    }

    boolean element(int x) {
        return 0 <= x && x <= q - 1;
    }

    boolean character(int j) {
        return 0 <= j && j <= q - 2;
    }

    boolean classes(int e) {
        return e >= 1 && (q - 1) % e == 0;
    }

    boolean moving(int a) {
        return 0 <= a && a <= n - 1 && gcd(a, n) == 1;
    }

    private void need(boolean so) {
        if (!so) {
            throw new NoSuchElementException();
        }
    }

    private void legal(boolean so) {
        if (!so) {
            throw new IllegalArgumentException();
        }
    }

    // ---- values

    /** t^m - 1 by all cyclotomic polynomials of lesser divisors. */
    private static long[] cyclotomic(int m) {
        long[] all = new long[m + 1];
        all[m] = 1;
        all[0] = -1;
        for (int divisor = 1; divisor < m; divisor++) {
            if (m % divisor == 0) {
                all = quotient(all, cyclotomic(divisor));
            }
        }
        return all;
    }

    private static long[] quotient(long[] dividend, long[] divisor) {
        long[] rest = dividend.clone();
        int degree = divisor.length - 1;
        long[] all = new long[dividend.length - degree];
        for (int i = all.length - 1; i >= 0; i--) {
            all[i] = rest[i + degree];
            for (int j = 0; j <= degree; j++) {
                rest[i + j] -= all[i] * divisor[j];
            }
        }
        for (long left : rest) {
            if (left != 0) {
                throw new AssertionError("no divisor");
            }
        }
        return all;
    }

    private long[] reduced(long[] polynomial) {
        long[] rest = polynomial.clone();
        for (int i = rest.length - 1; i >= d; i--) {
            long times = rest[i];
            if (times != 0) {
                for (int j = 0; j <= d; j++) {
                    rest[i - d + j] = Math.subtractExact(rest[i - d + j], Math.multiplyExact(times, phi[j]));
                }
            }
        }
        return Arrays.copyOf(rest, d);
    }

    private long[] root(long times, int exponent) {
        long[] all = new long[n];
        all[exponent % n] = times;
        return reduced(all);
    }

    private long[] sum(long[] one, long[] other, long times) {
        long[] all = one.clone();
        for (int i = 0; i < d; i++) {
            all[i] += times * other[i];
        }
        return all;
    }

    private long[] multiplied(long[] one, long[] other) {
        long[] all = new long[n];
        for (int i = 0; i < d; i++) {
            for (int j = 0; j < d; j++) {
                all[(i + j) % n] = Math.addExact(all[(i + j) % n], Math.multiplyExact(one[i], other[j]));
            }
        }
        return reduced(all);
    }

    private long[] moved(long[] value, int a) {
        long[] all = new long[n];
        for (int i = 0; i < d; i++) {
            all[i * a % n] += value[i];
        }
        return reduced(all);
    }

    private boolean great(long[] value) {
        for (long one : value) {
            if (one < -BOUND || one > BOUND) {
                return true;
            }
        }
        return false;
    }

    private int terms(long[] value) {
        int all = 0;
        for (long one : value) {
            all += one != 0 ? 1 : 0;
        }
        return all;
    }

    /** To what Z is a CHARACTER; NONE where it is 0. */
    private int characterOf(int j, int x) {
        if (x == 0) {
            return j == 0 ? 0 : NONE;
        }
        return p * logOf(x) * j % n;
    }

    private int wave(int x) {
        return (q - 1) * traceOf(x);
    }

    private long[] gauss(int j, int a) {
        long[] all = new long[n];
        for (int x = 0; x < q; x++) {
            if (characterOf(j, x) != NONE) {
                all[(characterOf(j, x) + wave(times(a, x))) % n]++;
            }
        }
        return reduced(all);
    }

    private long[] jacobi(int i, int j, int c) {
        long[] all = new long[n];
        for (int x = 0; x < q; x++) {
            int one = characterOf(i, x);
            int other = characterOf(j, minus(c, x));
            if (one != NONE && other != NONE) {
                all[(one + other) % n]++;
            }
        }
        return reduced(all);
    }

    private long[] kloosterman(int a, int b) {
        long[] all = new long[n];
        for (int x = 1; x < q; x++) {
            all[wave(plus(times(a, x), over(b, x)))]++;
        }
        return reduced(all);
    }

    private long[] period(int e, int i) {
        long[] all = new long[n];
        for (int m = i; m < q - 1; m += e) {
            all[wave(power(generator, m))]++;
        }
        return reduced(all);
    }

    // ---- the calls

    int feed(int... five) {
        if (tape.size() + 20 > 200) {
            return NONE;
        }
        for (int four : five) {
            for (int i = 3; i >= 0; i--) {
                tape.add(four >> 8 * i & 255);
            }
        }
        return tape.size();
    }

    int fault() {
        return fault;
    }

    int count(int what) {
        need(what >= 0 && what <= 7);
        return new int[] {p, k, q, n, d, generator, modulus, tape.size()}[what];
    }

    int element(int how, int x, int y) {
        need(element(x) && element(y) && how >= 0 && how <= 3 && (how != 3 || y != 0));
        return how == 0 ? plus(x, y) : how == 1 ? minus(x, y) : how == 2 ? times(x, y) : over(x, y);
    }

    int log(int x) {
        need(element(x) && x != 0);
        return logOf(x);
    }

    int trace(int x) {
        need(element(x));
        return traceOf(x);
    }

    int character(int j, int x) {
        need(character(j) && element(x));
        return characterOf(j, x);
    }

    int order(int j) {
        need(character(j));
        return (q - 1) / gcd(j, q - 1);
    }

    int coefficient(int place, int i) {
        need(place >= 0 && place < 8 && i >= 0 && i < d);
        return (int) places[place][i];
    }

    long of(int place, int what) {
        need(place >= 0 && place < 8 && what >= 0 && what <= 5);
        long[] value = places[place];
        Set<String> unlike = new HashSet<>();
        long[] all = new long[d];
        int first = NONE;
        for (int a = 0; what >= 3 && a < n; a++) {
            if (moving(a)) {
                long[] other = moved(value, a);
                unlike.add(Arrays.toString(other));
                all = sum(all, other, 1);
                if (a >= 2 && first == NONE && Arrays.equals(value, other)) {
                    first = a;
                }
            }
        }
        switch (what) {
            case 0: return terms(value);
            case 1: return terms(Arrays.copyOfRange(value, 1, d)) == 0 ? 1 : 0;
            case 2: return Arrays.equals(value, moved(value, n - 1)) ? 1 : 0;
            case 3: return unlike.size();
            case 4: return all[0];
            default: return first;
        }
    }

    boolean same(int i, int j) {
        need(i >= 0 && i < 8 && j >= 0 && j < 8);
        return Arrays.equals(places[i], places[j]);
    }

    private long[] made(int how, int a, int b, int c) {
        switch (how) {
            case 0: return character(a) && element(b) ? gauss(a, b) : null;
            case 1: return character(a) && character(b) && element(c) ? jacobi(a, b, c) : null;
            case 2: return element(a) && element(b) ? kloosterman(a, b) : null;
            case 3: return classes(a) && b >= 0 && b < a ? period(a, b) : null;
            case 4: return a >= 0 && a < 8 && moving(b) ? moved(places[a], b) : null;
            case 5: return element(a) ? weighted(NONE, a) : null;
            case 6: return character(a) ? weighted(a, 0) : null;
            case 7: return a >= 0 && a < n ? ramanujan(a) : null;
            default: return null;
        }
    }

    private long[] weighted(int j, int a) {
        long[] all = new long[n];
        for (int x = 0; x < q; x++) {
            int exponent = j == NONE ? wave(times(a, x)) : characterOf(j, x);
            if (exponent != NONE) {
                all[exponent] += f[x];
            }
        }
        return reduced(all);
    }

    private long[] ramanujan(int a) {
        long[] all = new long[d];
        for (int m = 0; m < n; m++) {
            if (moving(m)) {
                all = sum(all, root(1, m * a), 1);
            }
        }
        return all;
    }

    int make(int place, int how, int a, int b, int c) {
        long[] value = place >= 0 && place < 8 ? made(how, a, b, c) : null;
        if (value == null) {
            return NONE;
        }
        if (great(value)) {
            return -2;
        }
        places[place] = value;
        return terms(value);
    }

    int divide(int place, int i, int v) {
        if (place < 0 || place > 7 || i < 0 || i > 7 || v == 0) {
            return NONE;
        }
        long[] all = new long[d];
        for (int at = 0; at < d; at++) {
            if (places[i][at] % v != 0) {
                return NONE;
            }
            all[at] = places[i][at] / v;
        }
        places[place] = all;
        return terms(all);
    }

    private boolean exponent(int e) {
        return e >= 1 && e <= 30;
    }

    int solutions(int a, int e, int b, int g, int c) {
        need(element(a) && element(b) && element(c));
        legal(exponent(e) && exponent(g));
        int all = 0;
        for (int x = 0; x < q; x++) {
            for (int y = 0; y < q; y++) {
                all += plus(times(a, power(x, e)), times(b, power(y, g))) == c ? 1 : 0;
            }
        }
        return all;
    }

    int points(int e, int g, int h, int c) {
        need(element(c));
        legal(exponent(e) && exponent(g) && exponent(h));
        int all = 0;
        for (int x = 0; x < q; x++) {
            all += solutions(1, e, 1, g, minus(c, power(x, h)));
        }
        return all;
    }

    int rows(int m, int e, int c) {
        need(element(c));
        legal(exponent(e) && m >= 1 && m <= 6);
        long[][] known = new long[7][q];
        for (long[] row : known) {
            Arrays.fill(row, NONE);
        }
        return (int) rowsTo(m, e, c, known);
    }

    private long rowsTo(int m, int e, int c, long[][] known) {
        if (m == 0) {
            return c == 0 ? 1 : 0;
        }
        if (known[m][c] == NONE) {
            long all = 0;
            for (int x = 0; x < q; x++) {
                all += rowsTo(m - 1, e, minus(c, power(x, e)), known);
            }
            known[m][c] = all;
        }
        return known[m][c];
    }

    /** By Davenport and Hasse: the Jacobi sums of the larger field are powers of these, but for signs. */
    int lifted(int e, int g, int s) {
        legal(s >= 1 && Math.pow(q, s) < 4096.5 && classes(e) && classes(g));
        double all = Math.pow(q, s);
        for (int i = 1; i < e; i++) {
            for (int j = 1; j < g; j++) {
                int one = (q - 1) / e * i;
                int other = (q - 1) / g * j;
                all += liftedJacobi(one, other, s);
            }
        }
        if (Math.abs(all - Math.rint(all)) > 0.01) {
            throw new AssertionError("no whole number: " + all);
        }
        return (int) Math.rint(all);
    }

    /** The real part: the imaginary ones cancel out. */
    private double liftedJacobi(int i, int j, int s) {
        if ((i + j) % (q - 1) == 0) {
            double sign = Math.cos(2 * Math.PI * characterOf(i, minus(0, 1)) / n);
            return -Math.pow(Math.rint(sign), s);
        }
        double real = 0;
        double other = 0;
        for (int x = 2; x < q; x++) {
            double angle = 2 * Math.PI * (characterOf(i, x) + characterOf(j, minus(1, x))) / n;
            real += Math.cos(angle);
            other += Math.sin(angle);
        }
        double turned = s * Math.atan2(other, real);
        return Math.pow(-1, s - 1) * Math.pow(Math.hypot(real, other), s) * Math.cos(turned);
    }

    int curve(int a, int b) {
        need(element(a) && element(b));
        int all = 0;
        for (int x = 0; x < q; x++) {
            for (int y = 0; y < q; y++) {
                all += power(y, 2) == plus(plus(power(x, 3), times(a, x)), b) ? 1 : 0;
            }
        }
        return all;
    }

    int least(int x, int i) {
        need(element(x));
        if (i == NONE) {
            return x == 0 ? 0 : power(x, (q - 1) / (p - 1));
        }
        int[] polynomial = leastPolynomial(x);
        need(i == -2 || i >= 0 && i < polynomial.length);
        return i == -2 ? polynomial.length - 1 : polynomial[i];
    }

    /** All polynomials are tried, those of lesser degree first. */
    private int[] leastPolynomial(int x) {
        for (int degree = 1;; degree++) {
            for (int low = 0; low < (int) Math.round(Math.pow(p, degree)); low++) {
                int[] polynomial = new int[degree + 1];
                int all = power(x, degree);
                int rest = low;
                for (int i = 0; i < degree; i++) {
                    polynomial[i] = rest % p;
                    rest /= p;
                    all = plus(all, times(polynomial[i], power(x, i)));
                }
                polynomial[degree] = 1;
                if (all == 0) {
                    return polynomial;
                }
            }
        }
    }

    int let(int x, int v) {
        need(element(x));
        legal(v >= -99 && v <= 99);
        int was = f[x];
        f[x] = v;
        return was;
    }

    int alike(int y) {
        need(element(y));
        int all = 0;
        for (int x = 0; x < q; x++) {
            all += f[x] * f[plus(x, y)];
        }
        return all;
    }

    private List<Integer> members(int set) {
        need(set >= 0);
        List<Integer> all = new ArrayList<>();
        for (int x = 0; x < 31; x++) {
            if ((set & 1 << x) != 0) {
                need(x < q);
                all.add(x);
            }
        }
        return all;
    }

    int mark(int set) {
        List<Integer> all = members(set);
        for (int x = 0; x < q; x++) {
            f[x] = all.contains(x) ? 1 : 0;
        }
        return all.size();
    }

    int differences(int set) {
        List<Integer> all = members(set);
        Set<Integer> counts = new HashSet<>();
        for (int z = 1; z < q; z++) {
            int pairs = 0;
            for (int y : all) {
                pairs += all.contains(plus(y, z)) ? 1 : 0;
            }
            counts.add(pairs);
        }
        return counts.size() == 1 ? counts.iterator().next() : NONE;
    }

    int cyclotomic(int e, int i, int j) {
        need(classes(e) && i >= 0 && i < e && j >= 0 && j < e);
        int all = 0;
        for (int m = i; m < q - 1; m += e) {
            int next = plus(1, power(generator, m));
            all += next != 0 && logOf(next) % e == j ? 1 : 0;
        }
        return all;
    }

    int say(int place) {
        need(place >= 0 && place < 8);
        StringBuilder all = new StringBuilder();
        for (int i = d - 1; i >= 0; i--) {
            long c = places[place][i];
            if (c != 0) {
                all.append(c < 0 ? "-" : "+");
                all.append(i == 0 ? "" + Math.abs(c) : Math.abs(c) == 1 ? "" : "" + Math.abs(c));
                all.append(i == 0 ? "" : i == 1 ? "z" : "z" + i);
            }
        }
        said = all.length() == 0 ? "0" : all.charAt(0) == '+' ? all.substring(1) : all.toString();
        return said.length();
    }

    int said(int i) {
        return i >= 0 && i < said.length() ? said.charAt(i) : NONE;
    }

    // ---- texts

    int tell(int place, int bytes) {
        legal(place >= 0 && place < 8 && bytes >= 0 && bytes <= tape.size());
        List<Integer> text = new ArrayList<>(tape.subList(0, bytes));
        tape.clear();
        Text told = new Text(text);
        fault = told.kind == 0 ? NONE : told.place;
        if (told.kind != 0) {
            return -10 - told.kind;
        }
        if (told.great) {
            return -2;
        }
        places[place] = told.values.get(0);
        return terms(places[place]);
    }

    /** What a NUMBER must be, by the sign that it belongs to; behind each but the last a point. */
    private boolean fits(char sign, int which, long number, long before) {
        if (number > 9999) {
            return false;
        }
        switch (sign) {
            case 'z': return number < n;
            case 'g': return number < (which == 0 ? q - 1 : q);
            case 'j': return number < (which < 2 ? q - 1 : q);
            case 'k': return number < q;
            case 'p': return which == 0 ? classes((int) number) : number < before;
            case '#': return number < 8;
            case '^': return number <= 20;
            case 'm': return moving((int) number);
            default: return true;
        }
    }

    private static int numbersOf(char sign) {
        return sign == 'j' ? 3 : "gkp".indexOf(sign) >= 0 ? 2 : 1;
    }

    /** Two stacks: VALUES, and what is open or waits for its right side. */
    private final class Text {
        int kind = 0;
        int place = 0;
        boolean great = false;
        final List<long[]> values = new ArrayList<>();
        private final List<Integer> movings = new ArrayList<>();
        private final StringBuilder waiting = new StringBuilder();
        private char sign = 0;
        private final List<Long> numbers = new ArrayList<>();
        private boolean pointNext = false;
        private boolean atomNext = true;
        private boolean powerMay = false;

        Text(List<Integer> text) {
            int at = 0;
            while (kind == 0 && at < text.size()) {
                int first = text.get(at);
                place = at;
                at++;
                if (first >= '0' && first <= '9') {
                    String figures = "" + (char) first;
                    while (at < text.size() && text.get(at) >= '0' && text.get(at) <= '9') {
                        figures += (char) text.get(at).intValue();
                        at++;
                    }
                    java.math.BigInteger all = new java.math.BigInteger(figures);
                    number(all.bitLength() > 40 ? 1L << 40 : all.longValue());
                } else if (first != 32 && first != 10) {
                    sign((char) first);
                }
            }
            if (kind == 0) {
                place = text.size();
                if (sign != 0 || atomNext || waiting.indexOf("(") >= 0) {
                    kind = 1;
                } else {
                    settle("+S*");
                }
            }
        }

        private void number(long number) {
            if (sign == 0 && atomNext) {
                kind = number > 9999 ? 2 : 0;
                if (kind == 0) {
                    ended(root(number, 0));
                }
            } else if (sign == 0 || pointNext) {
                kind = 1;
            } else if (!fits(sign, numbers.size(), number, numbers.isEmpty() ? 0 : numbers.get(numbers.size() - 1))) {
                kind = 2;
            } else {
                numbers.add(number);
                pointNext = sign == 'm' || numbers.size() < numbersOf(sign);
                if (!pointNext) {
                    worked();
                }
            }
        }

        private void worked() {
            int a = (int) numbers.get(0).longValue();
            int b = numbers.size() > 1 ? (int) numbers.get(1).longValue() : 0;
            int c = numbers.size() > 2 ? (int) numbers.get(2).longValue() : 0;
            char was = sign;
            sign = 0;
            numbers.clear();
            switch (was) {
                case 'z': ended(root(1, a)); break;
                case 'g': ended(gauss(a, b)); break;
                case 'j': ended(jacobi(a, b, c)); break;
                case 'k': ended(kloosterman(a, b)); break;
                case 'p': ended(period(a, b)); break;
                case '#': ended(places[a]); break;
                default: raise(a); break;
            }
        }

        private void sign(char next) {
            if (sign != 0) {
                if (!pointNext || next != '.') {
                    kind = 1;
                } else if (sign == 'm') {
                    movings.add((int) numbers.get(0).longValue());
                    numbers.clear();
                    sign = 0;
                    pointNext = false;
                    atomNext = true;
                } else {
                    pointNext = false;
                }
            } else if (atomNext) {
                begins(next);
            } else {
                follows(next);
            }
        }

        private void begins(char next) {
            if ("(-~m".indexOf(next) >= 0) {
                if (opened() == 6) {
                    kind = 3;
                    return;
                }
                waiting.append(next);
                sign = next == 'm' ? 'm' : 0;
            } else if ("zgjkp#".indexOf(next) >= 0) {
                sign = next;
            } else {
                kind = 1;
            }
        }

        /** Signs of two sides wait as + S (less) and *. */
        private int opened() {
            int all = 0;
            for (int i = 0; i < waiting.length(); i++) {
                all += "(-~m".indexOf(waiting.charAt(i)) >= 0 ? 1 : 0;
            }
            return all;
        }

        private void follows(char next) {
            if (next == '^' && powerMay) {
                sign = '^';
                powerMay = false;
            } else if (next == '+' || next == '-') {
                settle("+S*");
                waiting.append(next == '+' ? '+' : 'S');
                atomNext = true;
            } else if (next == '*') {
                settle("*");
                waiting.append('*');
                atomNext = true;
            } else if (next == ')' && waiting.indexOf("(") >= 0) {
                settle("+S*");
                waiting.setLength(waiting.length() - 1);
                ended(pop());
            } else {
                kind = 1;
            }
        }

        private void settle(String which) {
            while (waiting.length() > 0 && which.indexOf(waiting.charAt(waiting.length() - 1)) >= 0) {
                char top = waiting.charAt(waiting.length() - 1);
                waiting.setLength(waiting.length() - 1);
                long[] right = pop();
                long[] left = pop();
                push(top == '*' ? great ? left : multiplied(left, right) : sum(left, right, top == '+' ? 1 : -1));
            }
        }

        /** An ATOM is whole, and with it the signs that stand ahead of it. */
        private void ended(long[] value) {
            push(value);
            while (waiting.length() > 0 && "-~m".indexOf(waiting.charAt(waiting.length() - 1)) >= 0) {
                char top = waiting.charAt(waiting.length() - 1);
                waiting.setLength(waiting.length() - 1);
                long[] atom = pop();
                if (top == '-') {
                    push(sum(new long[d], atom, -1));
                } else {
                    push(moved(atom, top == '~' ? n - 1 : movings.remove(movings.size() - 1)));
                }
            }
            atomNext = false;
            powerMay = true;
        }

        private void raise(int exponent) {
            long[] base = pop();
            long[] all = exponent == 0 ? root(1, 0) : base;
            for (int i = 2; i <= exponent && !great; i++) {
                all = multiplied(all, base);
                great |= great(all);
            }
            push(all);
        }

        private void push(long[] value) {
            great |= great(value);
            values.add(great ? new long[d] : value);
        }

        private long[] pop() {
            return values.remove(values.size() - 1);
        }
    }
}
