import java.util.Arrays;
import java.util.NoSuchElementException;

/**
 * Sums of characters over fields of up to 27 elements, kept exactly.
 *
 * All rows are made with the object and used again by every call, so that a long run of calls
 * makes nothing but the exceptions that it throws.
 */
public final class CharacterSums {
    public static final int NONE = -1;

    private static final int GREAT = -2;
    private static final int FAULTY = -10;
    private static final int PLACES = 8;
    private static final int MOST_BYTES = 200;
    private static final int FED_BYTES = 20;
    private static final int MOST_WEIGHT = 99;
    private static final int MOST_EXPONENT = 30;
    private static final int MOST_ROWS = 6;

    private final Field ground;
    private final Ring ring;
    private final Sums sums;
    private final Counting counting;
    private final Tower tower;
    private final Reader reader;
    private final Worker worker;
    private final Speech speech;
    private final int[][] places;
    private final int[] weights;
    private final int[] tape;
    private int taped;
    private int faultPlace;

    public CharacterSums() {
        ground = new Field();
        ring = new Ring();
        places = new int[PLACES][Ring.MOST_D];
        weights = new int[Field.MOST];
        tape = new int[MOST_BYTES];
        sums = new Sums(ground, ring, weights);
        counting = new Counting(ground);
        tower = new Tower(ground);
        reader = new Reader(ground, ring, tape);
        worker = new Worker(ring, sums, places);
        speech = new Speech();
        faultPlace = NONE;
        enter(2, 1, 2);
    }

    public int field(int p, int k) {
        int q = Field.sizeOf(p, k);
        if (q == NONE) {
            return NONE;
        }
        enter(p, k, q);
        return q;
    }

    public int feed(int a, int b, int c, int d, int e) {
        if (taped + FED_BYTES > MOST_BYTES) {
            return NONE;
        }
        append(a);
        append(b);
        append(c);
        append(d);
        append(e);
        return taped;
    }

    public int tell(int place, int n) throws IllegalArgumentException {
        if (!isPlace(place) || n < 0 || n > taped) {
            throw new IllegalArgumentException("no such PLACE, or not so many bytes");
        }
        taped = 0;
        reader.read(n);
        faultPlace = reader.faultPlace;
        if (reader.faultKind != 0) {
            return FAULTY - reader.faultKind;
        }
        if (!worker.run(reader.program)) {
            return GREAT;
        }
        System.arraycopy(worker.result(), 0, places[place], 0, ring.d);
        return ring.terms(places[place]);
    }

    public int fault() {
        return faultPlace;
    }

    public int count(int what) throws NoSuchElementException {
        switch (what) {
            case 0: return ground.p;
            case 1: return ground.k;
            case 2: return ground.q;
            case 3: return ring.n;
            case 4: return ring.d;
            case 5: return ground.generator;
            case 6: return ground.modulus;
            case 7: return taped;
            default: throw new NoSuchElementException("no such count");
        }
    }

    public int element(int how, int x, int y) throws NoSuchElementException {
        needElement(x);
        needElement(y);
        if (how == 0) {
            return ground.plus(x, y);
        }
        if (how == 1) {
            return ground.minus(x, y);
        }
        if (how == 2) {
            return ground.times(x, y);
        }
        if (how == 3 && y != 0) {
            return ground.over(x, y);
        }
        throw new NoSuchElementException("no such way, or by 0");
    }

    public int log(int x) throws NoSuchElementException {
        needElement(x);
        if (x == 0) {
            throw new NoSuchElementException("0 has no LOG");
        }
        return ground.logOf(x);
    }

    public int trace(int x) throws NoSuchElementException {
        needElement(x);
        return ground.traceOf(x);
    }

    public int character(int j, int x) throws NoSuchElementException {
        needCharacter(j);
        needElement(x);
        return sums.characterAt(j, x);
    }

    public int order(int j) throws NoSuchElementException {
        needCharacter(j);
        int all = ground.q - 1;
        for (int n = 1; n < all; n++) {
            if (n * j % all == 0) {
                return n;
            }
        }
        return all;
    }

    public int coefficient(int place, int i) throws NoSuchElementException {
        needPlace(place);
        if (i < 0 || i >= ring.d) {
            throw new NoSuchElementException("no such COEFFICIENT");
        }
        return places[place][i];
    }

    public long of(int place, int what) throws NoSuchElementException {
        needPlace(place);
        int[] value = places[place];
        switch (what) {
            case 0: return ring.terms(value);
            case 1: return ring.isWhole(value) ? 1 : 0;
            case 2: return ring.staysWhenMoved(value, ring.n - 1) ? 1 : 0;
            case 3: return ring.unlikeMovings(value);
            case 4: return ring.allMovings(value);
            case 5: return ring.firstStay(value);
            default: throw new NoSuchElementException("no such what");
        }
    }

    public boolean same(int i, int j) throws NoSuchElementException {
        needPlace(i);
        needPlace(j);
        return ring.alikeValues(places[i], places[j]);
    }

    public int make(int place, int how, int a, int b, int c) {
        if (!isPlace(place) || !canMake(how, a, b, c)) {
            return NONE;
        }
        switch (how) {
            case 0: sums.gauss(a, b); break;
            case 1: sums.jacobi(a, b, c); break;
            case 2: sums.kloosterman(a, b); break;
            case 3: sums.period(a, b); break;
            case 4: ring.move(places[a], b); break;
            case 5: sums.spectrum(a); break;
            case 6: sums.mellin(a); break;
            default: ring.moveRoot(a); break;
        }
        return ring.take(places[place]) ? ring.terms(places[place]) : GREAT;
    }

    public int divide(int place, int i, int v) {
        if (!isPlace(place) || !isPlace(i) || v == 0) {
            return NONE;
        }
        int[] from = places[i];
        for (int at = 0; at < ring.d; at++) {
            if (from[at] % v != 0) {
                return NONE;
            }
        }
        int[] into = places[place];
        for (int at = 0; at < ring.d; at++) {
            into[at] = from[at] / v;
        }
        return ring.terms(into);
    }

    public int solutions(int a, int d, int b, int e, int c)
            throws NoSuchElementException, IllegalArgumentException {
        needElement(a);
        needElement(b);
        needElement(c);
        needExponent(d);
        needExponent(e);
        counting.begin();
        counting.join(a, d);
        counting.join(b, e);
        return counting.waysTo(c);
    }

    public int points(int d, int e, int f, int c)
            throws NoSuchElementException, IllegalArgumentException {
        needElement(c);
        needExponent(d);
        needExponent(e);
        needExponent(f);
        counting.begin();
        counting.join(1, d);
        counting.join(1, e);
        counting.join(1, f);
        return counting.waysTo(c);
    }

    public int rows(int n, int d, int c) throws NoSuchElementException, IllegalArgumentException {
        needElement(c);
        needExponent(d);
        if (n < 1 || n > MOST_ROWS) {
            throw new IllegalArgumentException("not 1 to 6 ELEMENTS");
        }
        counting.begin();
        for (int i = 0; i < n; i++) {
            counting.join(1, d);
        }
        return counting.waysTo(c);
    }

    public int lifted(int d, int e, int s) throws IllegalArgumentException {
        int size = tower.sizeOf(s);
        if (size == NONE || !ground.hasClasses(d) || !ground.hasClasses(e)) {
            throw new IllegalArgumentException("no such s, d or e");
        }
        return tower.ways(d, e, size);
    }

    public int curve(int a, int b) throws NoSuchElementException {
        needElement(a);
        needElement(b);
        return counting.curvePoints(a, b);
    }

    public int least(int x, int i) throws NoSuchElementException {
        needElement(x);
        if (i == NONE) {
            return ground.normOf(x);
        }
        int degree = ground.findLeast(x);
        if (i == -2) {
            return degree;
        }
        if (i < 0 || i > degree) {
            throw new NoSuchElementException("no such coefficient");
        }
        return ground.leastAt(i);
    }

    public int let(int x, int v) throws NoSuchElementException, IllegalArgumentException {
        needElement(x);
        if (v < -MOST_WEIGHT || v > MOST_WEIGHT) {
            throw new IllegalArgumentException("not -99 to 99");
        }
        int was = weights[x];
        weights[x] = v;
        return was;
    }

    public int alike(int y) throws NoSuchElementException {
        needElement(y);
        int all = 0;
        for (int x = 0; x < ground.q; x++) {
            all += weights[x] * weights[ground.plus(x, y)];
        }
        return all;
    }

    public int mark(int set) throws NoSuchElementException {
        needSet(set);
        for (int x = 0; x < ground.q; x++) {
            weights[x] = set >> x & 1;
        }
        return Integer.bitCount(set);
    }

    public int differences(int set) throws NoSuchElementException {
        needSet(set);
        return counting.evenDifferences(set);
    }

    public int cyclotomic(int e, int i, int j) throws NoSuchElementException {
        if (!ground.hasClass(e, i) || !ground.hasClass(e, j)) {
            throw new NoSuchElementException("no such e, i, j");
        }
        return counting.neighbours(e, i, j);
    }

    public int say(int place) throws NoSuchElementException {
        needPlace(place);
        return speech.write(places[place], ring.d);
    }

    public int said(int i) {
        return speech.byteAt(i);
    }

    private void enter(int p, int k, int q) {
        ground.become(p, k, q);
        ring.become(p * (q - 1));
        for (int i = 0; i < PLACES; i++) {
            Arrays.fill(places[i], 0);
        }
        Arrays.fill(weights, 0);
    }

    private void append(int four) {
        for (int shift = 24; shift >= 0; shift -= 8) {
            tape[taped] = four >>> shift & 255;
            taped++;
        }
    }

    private boolean isPlace(int place) {
        return place >= 0 && place < PLACES;
    }

    private boolean canMake(int how, int a, int b, int c) {
        switch (how) {
            case 0: return ground.hasCharacter(a) && ground.has(b);
            case 1: return ground.hasCharacter(a) && ground.hasCharacter(b) && ground.has(c);
            case 2: return ground.has(a) && ground.has(b);
            case 3: return ground.hasClass(a, b);
            case 4: return isPlace(a) && ring.moves(b);
            case 5: return ground.has(a);
            case 6: return ground.hasCharacter(a);
            case 7: return a >= 0 && a < ring.n;
            default: return false;
        }
    }

    private void needElement(int x) {
        if (!ground.has(x)) {
            throw new NoSuchElementException("no such ELEMENT");
        }
    }

    private void needCharacter(int j) {
        if (!ground.hasCharacter(j)) {
            throw new NoSuchElementException("no such CHARACTER");
        }
    }

    private void needPlace(int place) {
        if (!isPlace(place)) {
            throw new NoSuchElementException("no such PLACE");
        }
    }

    private void needSet(int set) {
        if (set < 0 || set >> ground.q != 0) {
            throw new NoSuchElementException("no such ELEMENTS");
        }
    }

    private void needExponent(int d) {
        if (d < 1 || d > MOST_EXPONENT) {
            throw new IllegalArgumentException("not 1 to 30");
        }
    }

    /** The FIELD: its ELEMENTS with tables of their sums, products, LOGS and TRACES. */
    private static final class Field {
        static final int MOST = 27;
        private static final int MOST_K = 4;
        private static final int[] PRIMES = {2, 3, 5, 7, 11, 13, 17, 19, 23};

        int p;
        int k;
        int q;
        int modulus;
        int generator;
        private final int[] sumOf = new int[MOST * MOST];
        private final int[] negatives = new int[MOST];
        private final int[] shifts = new int[MOST];
        private final int[] productOf = new int[MOST * MOST];
        private final int[] powers = new int[MOST];
        private final int[] logs = new int[MOST];
        private final int[] traces = new int[MOST];
        private final int[] leastOf = new int[MOST_K + 1];

        static int sizeOf(int p, int k) {
            boolean known = false;
            for (int prime : PRIMES) {
                known |= prime == p;
            }
            if (!known || k < 1) {
                return NONE;
            }
            int size = 1;
            for (int i = 0; i < k && size <= MOST; i++) {
                size *= p;
            }
            return size <= MOST ? size : NONE;
        }

        /** p, k and q must be those of sizeOf. */
        void become(int newP, int newK, int newQ) {
            p = newP;
            k = newK;
            q = newQ;
            fillSums();
            findModulus();
            fillProducts();
            findGenerator();
            fillTraces();
        }

        boolean has(int x) {
            return x >= 0 && x < q;
        }

        boolean hasCharacter(int j) {
            return j >= 0 && j < q - 1;
        }

        boolean hasClasses(int e) {
            return e >= 1 && (q - 1) % e == 0;
        }

        boolean hasClass(int e, int i) {
            return hasClasses(e) && i >= 0 && i < e;
        }

        int plus(int x, int y) {
            return sumOf[x * q + y];
        }

        int minus(int x, int y) {
            return plus(x, negatives[y]);
        }

        int times(int x, int y) {
            return productOf[x * q + y];
        }

        /** y must not be 0. */
        int over(int x, int y) {
            return times(x, powers[(q - 1 - logs[y]) % (q - 1)]);
        }

        /** x to the n, n 1 or more. */
        int raised(int x, int n) {
            return x == 0 ? 0 : powers[logs[x] * n % (q - 1)];
        }

        /** x must not be 0. */
        int logOf(int x) {
            return logs[x];
        }

        int traceOf(int x) {
            return traces[x];
        }

        int normOf(int x) {
            return raised(x, (q - 1) / (p - 1));
        }

        boolean inClass(int x, int e, int i) {
            return x != 0 && logs[x] % e == i;
        }

        /**
         * Multiplies t less each unlike one of x, its p-th power, that one's, ..: no polynomial of a
         * lesser degree with coefficients 0 to p - 1 has them all. Answers the degree.
         */
        int findLeast(int x) {
            Arrays.fill(leastOf, 0);
            leastOf[0] = 1;
            int degree = 0;
            int root = x;
            do {
                degree++;
                for (int i = degree; i >= 0; i--) {
                    int risen = i > 0 ? leastOf[i - 1] : 0;
                    leastOf[i] = minus(risen, times(root, leastOf[i]));
                }
                root = raised(root, p);
            } while (root != x && degree < k);
            return degree;
        }

        /** A coefficient of the polynomial that findLeast found, 0 to its degree. */
        int leastAt(int i) {
            return leastOf[i];
        }

        private void fillSums() {
            for (int x = 0; x < q; x++) {
                for (int y = 0; y < q; y++) {
                    int sum = addedDigits(x, y);
                    sumOf[x * q + y] = sum;
                    if (sum == 0) {
                        negatives[x] = y;
                    }
                }
            }
        }

        private int addedDigits(int x, int y) {
            int all = 0;
            for (int unit = 1; unit < q; unit *= p) {
                all += (x / unit + y / unit) % p * unit;
            }
            return all;
        }

        private void findModulus() {
            modulus = NONE;
            do {
                modulus++;
                fillShifts();
            } while (modulus < q - 1 && isProduct());
        }

        /** What each ELEMENT becomes when it is multiplied by t. */
        private void fillShifts() {
            int top = q / p;
            for (int x = 0; x < q; x++) {
                int shifted = x % top * p;
                for (int i = 0; i < x / top; i++) {
                    shifted = minus(shifted, modulus);
                }
                shifts[x] = shifted;
            }
        }

        /** The polynomial is a product just where two others of lesser degree are 0 by it. */
        private boolean isProduct() {
            for (int x = p; x < q; x++) {
                for (int y = p; y < q; y++) {
                    if (multiplied(x, y) == 0) {
                        return true;
                    }
                }
            }
            return false;
        }

        private void fillProducts() {
            for (int x = 0; x < q; x++) {
                for (int y = 0; y < q; y++) {
                    productOf[x * q + y] = multiplied(x, y);
                }
            }
        }

        private int multiplied(int x, int y) {
            int all = 0;
            for (int unit = q / p; unit > 0; unit /= p) {
                all = shifts[all];
                for (int i = 0; i < y / unit % p; i++) {
                    all = plus(all, x);
                }
            }
            return all;
        }

        private void findGenerator() {
            generator = 0;
            do {
                generator++;
            } while (!walkPowers() && generator < q - 1);
        }

        /** Whether the powers of generator are all but 0; if so the tables are whole. */
        private boolean walkPowers() {
            int power = 1;
            for (int n = 0; n < q - 1; n++) {
                powers[n] = power;
                logs[power] = n;
                power = times(power, generator);
                if (power == 1) {
                    return n == q - 2;
                }
            }
            return false;
        }

        private void fillTraces() {
            for (int x = 0; x < q; x++) {
                int all = 0;
                int power = x;
                for (int i = 0; i < k; i++) {
                    all = plus(all, power);
                    power = raised(power, p);
                }
                traces[x] = all;
            }
        }
    }

    /**
     * Whole numbers joined with Z, the n-th root of unity. A sum is gathered in a row of its own,
     * by powers of Z below n / 2 (Z to the n / 2 is -1, for n is even), and then taken as
     * COEFFICIENTS. Long arithmetic holds it: products of values that aren't GREAT stay below 1e16.
     */
    private static final class Ring {
        static final int MOST_D = 220;
        private static final int MOST_N = 506;
        private static final int MOST_COEFFICIENT = 1000000;

        int n;
        int d;
        private int half;
        private final boolean[] moving = new boolean[MOST_N];
        private final long[] gathered = new long[MOST_N / 2];
        private final int[] termPower = new int[MOST_D];
        private final int[] termFactor = new int[MOST_D];
        private int termCount;

        void become(int newN) {
            n = newN;
            half = n / 2;
            findMovings();
            gatherCyclotomic();
            keepTerms();
        }

        boolean moves(int a) {
            return a >= 0 && a < n && moving[a];
        }

        void clear() {
            Arrays.fill(gathered, 0);
        }

        /** exponent 0 or more. */
        void add(long times, int exponent) {
            int at = exponent % n;
            if (at < half) {
                gathered[at] += times;
            } else {
                gathered[at - half] -= times;
            }
        }

        void addValue(int[] value, int times) {
            for (int i = 0; i < d; i++) {
                gathered[i] += (long) value[i] * times;
            }
        }

        void multiply(int[] left, int[] right) {
            clear();
            for (int i = 0; i < d; i++) {
                if (left[i] != 0) {
                    addShifted(right, left[i], i);
                }
            }
        }

        void move(int[] value, int a) {
            clear();
            addMoved(value, a);
        }

        void moveRoot(int exponent) {
            clear();
            for (int a = 0; a < n; a++) {
                if (moving[a]) {
                    add(1, a * exponent);
                }
            }
        }

        /** Takes what was gathered; false, and nothing is changed, if it is GREAT. */
        boolean take(int[] into) {
            reduce();
            for (int i = 0; i < d; i++) {
                if (gathered[i] < -MOST_COEFFICIENT || gathered[i] > MOST_COEFFICIENT) {
                    return false;
                }
            }
            for (int i = 0; i < d; i++) {
                into[i] = (int) gathered[i];
            }
            return true;
        }

        int terms(int[] value) {
            int found = 0;
            for (int i = 0; i < d; i++) {
                if (value[i] != 0) {
                    found++;
                }
            }
            return found;
        }

        boolean isWhole(int[] value) {
            return terms(value) == (value[0] == 0 ? 0 : 1);
        }

        boolean alikeValues(int[] one, int[] other) {
            for (int i = 0; i < d; i++) {
                if (one[i] != other[i]) {
                    return false;
                }
            }
            return true;
        }

        boolean staysWhenMoved(int[] value, int a) {
            move(value, a);
            reduce();
            for (int i = 0; i < d; i++) {
                if (gathered[i] != value[i]) {
                    return false;
                }
            }
            return true;
        }

        /** Each unlike one comes of as many movings as leave the value itself. */
        int unlikeMovings(int[] value) {
            int staying = 1;
            for (int a = 2; a < n; a++) {
                if (moving[a] && staysWhenMoved(value, a)) {
                    staying++;
                }
            }
            return d / staying;
        }

        int firstStay(int[] value) {
            for (int a = 2; a < n; a++) {
                if (moving[a] && staysWhenMoved(value, a)) {
                    return a;
                }
            }
            return NONE;
        }

        /** A whole number, for each moving only brings the same values in another order. */
        long allMovings(int[] value) {
            clear();
            for (int a = 0; a < n; a++) {
                if (moving[a]) {
                    addMoved(value, a);
                }
            }
            reduce();
            return gathered[0];
        }

        private void addMoved(int[] value, int a) {
            for (int i = 0; i < d; i++) {
                if (value[i] != 0) {
                    add(value[i], i * a);
                }
            }
        }

        private void addShifted(int[] value, long times, int shift) {
            for (int i = 0; i < d; i++) {
                int at = i + shift;
                if (at < half) {
                    gathered[at] += times * value[i];
                } else {
                    gathered[at - half] -= times * value[i];
                }
            }
        }

        private void reduce() {
            for (int at = half - 1; at >= d; at--) {
                long times = gathered[at];
                gathered[at] = 0;
                for (int i = 0; times != 0 && i < termCount; i++) {
                    gathered[at - d + termPower[i]] -= times * termFactor[i];
                }
            }
        }

        private void findMovings() {
            for (int a = 0; a < n; a++) {
                moving[a] = true;
            }
            for (int divisor = 2; divisor <= n; divisor++) {
                for (int a = 0; n % divisor == 0 && a < n; a += divisor) {
                    moving[a] = false;
                }
            }
            d = 0;
            for (int a = 0; a < n; a++) {
                if (moving[a]) {
                    d++;
                }
            }
        }

        /** The least polynomial of Z, as the product of (1 - t^m), each to the Moebius of n / m. */
        private void gatherCyclotomic() {
            clear();
            gathered[0] = 1;
            for (int m = 1; m <= n; m++) {
                int exponent = n % m == 0 ? moebius(n / m) : 0;
                if (exponent == 1) {
                    for (int i = d; i >= m; i--) {
                        gathered[i] -= gathered[i - m];
                    }
                } else if (exponent == -1) {
                    for (int i = m; i <= d; i++) {
                        gathered[i] += gathered[i - m];
                    }
                }
            }
        }

        /** Most of that polynomial is 0: only the rest is kept, without its highest term. */
        private void keepTerms() {
            termCount = 0;
            for (int i = 0; i < d; i++) {
                if (gathered[i] != 0) {
                    termPower[termCount] = i;
                    termFactor[termCount] = (int) gathered[i];
                    termCount++;
                }
            }
        }

        private static int moebius(int m) {
            int sign = 1;
            int rest = m;
            for (int prime = 2; prime <= m; prime++) {
                if (rest % prime == 0) {
                    rest /= prime;
                    sign = -sign;
                }
                if (rest % prime == 0) {
                    return 0;
                }
            }
            return sign;
        }
    }

    /** The sums over ELEMENTS, gathered in the ring. */
    private static final class Sums {
        private final Field ground;
        private final Ring ring;
        private final int[] weights;

        Sums(Field ground, Ring ring, int[] weights) {
            this.ground = ground;
            this.ring = ring;
            this.weights = weights;
        }

        /** To what Z is CHARACTER j of x; NONE where it is 0. */
        int characterAt(int j, int x) {
            if (x == 0) {
                return j == 0 ? 0 : NONE;
            }
            return ground.p * ground.logOf(x) * j % ring.n;
        }

        void gauss(int j, int a) {
            ring.clear();
            for (int x = 0; x < ground.q; x++) {
                addBoth(1, characterAt(j, x), waveAt(ground.times(a, x)));
            }
        }

        void jacobi(int i, int j, int c) {
            ring.clear();
            for (int x = 0; x < ground.q; x++) {
                addBoth(1, characterAt(i, x), characterAt(j, ground.minus(c, x)));
            }
        }

        void kloosterman(int a, int b) {
            ring.clear();
            for (int x = 1; x < ground.q; x++) {
                ring.add(1, waveAt(ground.plus(ground.times(a, x), ground.over(b, x))));
            }
        }

        void period(int e, int i) {
            ring.clear();
            for (int x = 1; x < ground.q; x++) {
                if (ground.inClass(x, e, i)) {
                    ring.add(1, waveAt(x));
                }
            }
        }

        void spectrum(int a) {
            ring.clear();
            for (int x = 0; x < ground.q; x++) {
                ring.add(weights[x], waveAt(ground.times(a, x)));
            }
        }

        void mellin(int j) {
            ring.clear();
            for (int x = 0; x < ground.q; x++) {
                addBoth(weights[x], characterAt(j, x), 0);
            }
        }

        private int waveAt(int x) {
            return (ground.q - 1) * ground.traceOf(x);
        }

        private void addBoth(int times, int one, int other) {
            if (one != NONE && other != NONE) {
                ring.add(times, one + other);
            }
        }
    }

    /** What is counted over the FIELD's own ELEMENTS. */
    private static final class Counting {
        private final Field ground;
        private long[] ways = new long[Field.MOST];
        private long[] joined = new long[Field.MOST];
        private final int[] seen = new int[Field.MOST];

        Counting(Field ground) {
            this.ground = ground;
        }

        void begin() {
            Arrays.fill(ways, 0);
            ways[0] = 1;
        }

        /** One more ELEMENT comes to the sum: it to the d, a times. */
        void join(int a, int d) {
            Arrays.fill(joined, 0);
            for (int x = 0; x < ground.q; x++) {
                int part = ground.times(a, ground.raised(x, d));
                for (int sum = 0; sum < ground.q; sum++) {
                    joined[ground.plus(sum, part)] += ways[sum];
                }
            }
            long[] old = ways;
            ways = joined;
            joined = old;
        }

        int waysTo(int c) {
            return (int) ways[c];
        }

        int curvePoints(int a, int b) {
            int found = 0;
            for (int x = 0; x < ground.q; x++) {
                int right = ground.plus(ground.plus(ground.raised(x, 3), ground.times(a, x)), b);
                for (int y = 0; y < ground.q; y++) {
                    if (ground.times(y, y) == right) {
                        found++;
                    }
                }
            }
            return found;
        }

        int neighbours(int e, int i, int j) {
            int found = 0;
            for (int x = 1; x < ground.q; x++) {
                if (ground.inClass(x, e, i) && ground.inClass(ground.plus(1, x), e, j)) {
                    found++;
                }
            }
            return found;
        }

        int evenDifferences(int set) {
            Arrays.fill(seen, 0);
            for (int x = 0; x < ground.q; x++) {
                for (int y = 0; y < ground.q; y++) {
                    if ((set >> x & set >> y & 1) == 1) {
                        seen[ground.minus(x, y)]++;
                    }
                }
            }
            for (int x = 2; x < ground.q; x++) {
                if (seen[x] != seen[1]) {
                    return NONE;
                }
            }
            return seen[1];
        }
    }

    /** A field above the FIELD: rows of s ELEMENTS, told as numbers by their digits to the base q. */
    private static final class Tower {
        private static final int MOST = 4096;

        private final Field ground;
        private final int[] logs = new int[MOST];
        private int size;
        private int loggedBase;
        private int loggedSize;

        Tower(Field ground) {
            this.ground = ground;
        }

        int sizeOf(int s) {
            if (s < 1) {
                return NONE;
            }
            int all = 1;
            for (int i = 0; i < s && all <= MOST; i++) {
                all *= ground.q;
            }
            return all <= MOST ? all : NONE;
        }

        /** d and e divide q - 1, so also size - 1: what is a d-th power is so in d ways. */
        int ways(int d, int e, int newSize) {
            size = newSize;
            if (d == 1 || e == 1) {
                return size;
            }
            fillLogs();
            int found = 0;
            for (int x = 0; x < size; x++) {
                found += roots(x, d) * roots(oneLess(x), e);
            }
            return found;
        }

        private int roots(int x, int d) {
            if (x == 0) {
                return 1;
            }
            return logs[x] % d == 0 ? d : 0;
        }

        private int oneLess(int x) {
            int all = ground.minus(1, x % ground.q);
            for (int unit = ground.q; unit < size; unit *= ground.q) {
                all += ground.minus(0, x / unit % ground.q) * unit;
            }
            return all;
        }

        /** The logs stay till another field is asked for: to find them is the dearest part. */
        private void fillLogs() {
            if (loggedBase == ground.q && loggedSize == size) {
                return;
            }
            loggedBase = ground.q;
            loggedSize = size;
            for (int low = 1; low < size; low++) {
                if (low % ground.q != 0 && walkPowers(low)) {
                    return;
                }
            }
        }

        /** Whether the powers of t are all but 0, where t to the s is low. */
        private boolean walkPowers(int low) {
            int power = 1;
            for (int n = 0; n < size - 1; n++) {
                logs[power] = n;
                power = timesT(power, low);
                if (power == 1) {
                    return n == size - 2;
                }
            }
            return false;
        }

        private int timesT(int x, int low) {
            int topUnit = size / ground.q;
            int top = x / topUnit;
            int shifted = x % topUnit * ground.q;
            int all = 0;
            for (int unit = 1; unit < size; unit *= ground.q) {
                int more = ground.times(top, low / unit % ground.q);
                all += ground.plus(shifted / unit % ground.q, more) * unit;
            }
            return all;
        }
    }

    /** What a text asks for, each part ahead of what it is a part of. */
    private static final class Program {
        static final int WHOLE = 0;
        static final int ROOT = 1;
        static final int GAUSS = 2;
        static final int JACOBI = 3;
        static final int KLOOSTERMAN = 4;
        static final int PERIOD = 5;
        static final int PLACE = 6;
        static final int NEGATED = 7;
        static final int MOVED = 8;
        static final int PLUS = 9;
        static final int MINUS = 10;
        static final int TIMES = 11;
        static final int POWER = 12;

        int length;
        final int[] what = new int[MOST_BYTES];
        final int[] first = new int[MOST_BYTES];
        final int[] second = new int[MOST_BYTES];
        final int[] third = new int[MOST_BYTES];

        /** There is always room: each step stands for at least one byte of its own. */
        void add(int step, int a, int b, int c) {
            if (length < MOST_BYTES) {
                what[length] = step;
                first[length] = a;
                second[length] = b;
                third[length] = c;
                length++;
            }
        }
    }

    /** Goes through a text TOKEN by TOKEN, to its first FAULT or to its program. */
    private static final class Reader {
        private static final int END = -1;
        private static final int NUMBER = -2;
        private static final int WRONG_TOKEN = 1;
        private static final int WRONG_NUMBER = 2;
        private static final int TOO_DEEP = 3;
        private static final int MOST_OPEN = 6;
        private static final int TOO_HIGH = 10000;
        private static final int MOST_POWER = 20;

        final Program program = new Program();
        int faultKind;
        int faultPlace;
        private final Field ground;
        private final Ring ring;
        private final int[] text;
        private int length;
        private int at;
        private int open;
        private int token;
        private int start;
        private int number;

        Reader(Field ground, Ring ring, int[] text) {
            this.ground = ground;
            this.ring = ring;
            this.text = text;
        }

        void read(int bytes) {
            program.length = 0;
            faultKind = 0;
            faultPlace = NONE;
            length = Math.min(bytes, text.length);
            at = 0;
            open = 0;
            advance();
            readSum();
            if (token != END) {
                refuse(WRONG_TOKEN);
            }
        }

        private void readSum() {
            readProduct();
            for (int i = 0; i < length && (token == '+' || token == '-'); i++) {
                int step = token == '+' ? Program.PLUS : Program.MINUS;
                advance();
                readProduct();
                program.add(step, 0, 0, 0);
            }
        }

        private void readProduct() {
            readFactor();
            for (int i = 0; i < length && token == '*'; i++) {
                advance();
                readFactor();
                program.add(Program.TIMES, 0, 0, 0);
            }
        }

        private void readFactor() {
            readAtom();
            if (token == '^') {
                advance();
                program.add(Program.POWER, readNumber(number <= MOST_POWER), 0, 0);
            }
        }

        private void readAtom() {
            switch (token) {
                case NUMBER: readWhole(); break;
                case 'z': readRoot(); break;
                case 'g': readGauss(); break;
                case 'j': readJacobi(); break;
                case 'k': readKloosterman(); break;
                case 'p': readPeriod(); break;
                case '#': readPlace(); break;
                case '(':
                case '-':
                case '~':
                case 'm': readOpening(); break;
                default: refuse(WRONG_TOKEN); break;
            }
        }

        private void readWhole() {
            program.add(Program.WHOLE, readNumber(number < TOO_HIGH), 0, 0);
        }

        private void readRoot() {
            advance();
            program.add(Program.ROOT, readNumber(number < ring.n), 0, 0);
        }

        private void readGauss() {
            advance();
            int j = readNumber(number < ground.q - 1);
            skip('.');
            program.add(Program.GAUSS, j, readNumber(number < ground.q), 0);
        }

        private void readJacobi() {
            advance();
            int i = readNumber(number < ground.q - 1);
            skip('.');
            int j = readNumber(number < ground.q - 1);
            skip('.');
            program.add(Program.JACOBI, i, j, readNumber(number < ground.q));
        }

        private void readKloosterman() {
            advance();
            int a = readNumber(number < ground.q);
            skip('.');
            program.add(Program.KLOOSTERMAN, a, readNumber(number < ground.q), 0);
        }

        private void readPeriod() {
            advance();
            int e = readNumber(ground.hasClasses(number));
            skip('.');
            program.add(Program.PERIOD, e, readNumber(number < e), 0);
        }

        private void readPlace() {
            advance();
            program.add(Program.PLACE, readNumber(number < PLACES), 0, 0);
        }

        private void readOpening() {
            if (open == MOST_OPEN) {
                refuse(TOO_DEEP);
                return;
            }
            int sign = token;
            open++;
            advance();
            if (sign == '(') {
                readSum();
                skip(')');
            } else if (sign == '-') {
                readAtom();
                program.add(Program.NEGATED, 0, 0, 0);
            } else if (sign == '~') {
                readAtom();
                program.add(Program.MOVED, ring.n - 1, 0, 0);
            } else {
                int a = readNumber(ring.moves(number));
                skip('.');
                readAtom();
                program.add(Program.MOVED, a, 0, 0);
            }
            open--;
        }

        private int readNumber(boolean asTold) {
            if (token != NUMBER) {
                refuse(WRONG_TOKEN);
                return 0;
            }
            if (!asTold) {
                refuse(WRONG_NUMBER);
                return 0;
            }
            int found = number;
            advance();
            return found;
        }

        private void skip(int sign) {
            if (token == sign) {
                advance();
            } else {
                refuse(WRONG_TOKEN);
            }
        }

        /** Behind a FAULT only the end is left to be read, so that all that is open closes. */
        private void refuse(int kind) {
            if (faultKind == 0) {
                faultKind = kind;
                faultPlace = start;
            }
            at = length;
            token = END;
        }

        private void advance() {
            while (at < length && (text[at] == ' ' || text[at] == '\n')) {
                at++;
            }
            start = at;
            number = 0;
            while (at < length && isFigure(text[at])) {
                number = Math.min(number * 10 + text[at] - '0', TOO_HIGH);
                at++;
            }
            if (at > start) {
                token = NUMBER;
            } else if (at < length) {
                token = text[at];
                at++;
            } else {
                token = END;
            }
        }

        private static boolean isFigure(int sign) {
            return sign >= '0' && sign <= '9';
        }
    }

    /** Works out a program; the VALUES that wait for their signs lie on a stack. */
    private static final class Worker {
        // Outside and in each of six brackets two VALUES may wait; the last ATOM and its POWER are two more.
        private static final int MOST_WAITING = 16;

        private final Ring ring;
        private final Sums sums;
        private final int[][] places;
        private final int[][] stack = new int[MOST_WAITING][Ring.MOST_D];
        private int height;

        Worker(Ring ring, Sums sums, int[][] places) {
            this.ring = ring;
            this.sums = sums;
            this.places = places;
        }

        /** false: some VALUE on the way is GREAT. */
        boolean run(Program program) {
            height = 0;
            for (int i = 0; i < program.length; i++) {
                if (!work(program, i)) {
                    return false;
                }
            }
            return height == 1;
        }

        int[] result() {
            return stack[0];
        }

        private boolean work(Program program, int i) {
            int a = program.first[i];
            switch (program.what[i]) {
                case Program.NEGATED: return negate();
                case Program.MOVED: return move(a);
                case Program.PLUS: return join(1);
                case Program.MINUS: return join(-1);
                case Program.TIMES: return multiply();
                case Program.POWER: return raise(a);
                default: return push(program, i);
            }
        }

        private boolean push(Program program, int i) {
            if (height >= MOST_WAITING) {
                return false;
            }
            int a = program.first[i];
            int b = program.second[i];
            switch (program.what[i]) {
                case Program.GAUSS: sums.gauss(a, b); break;
                case Program.JACOBI: sums.jacobi(a, b, program.third[i]); break;
                case Program.KLOOSTERMAN: sums.kloosterman(a, b); break;
                case Program.PERIOD: sums.period(a, b); break;
                case Program.PLACE: gather(places[a], 1); break;
                case Program.ROOT: gatherRoot(1, a); break;
                default: gatherRoot(a, 0); break;
            }
            height++;
            return ring.take(stack[height - 1]);
        }

        private void gather(int[] value, int times) {
            ring.clear();
            ring.addValue(value, times);
        }

        private void gatherRoot(int times, int exponent) {
            ring.clear();
            ring.add(times, exponent);
        }

        private boolean negate() {
            if (height < 1) {
                return false;
            }
            int[] top = stack[height - 1];
            gather(top, -1);
            return ring.take(top);
        }

        private boolean move(int a) {
            if (height < 1) {
                return false;
            }
            int[] top = stack[height - 1];
            ring.move(top, a);
            return ring.take(top);
        }

        private boolean join(int times) {
            if (height < 2) {
                return false;
            }
            height--;
            gather(stack[height - 1], 1);
            ring.addValue(stack[height], times);
            return ring.take(stack[height - 1]);
        }

        private boolean multiply() {
            if (height < 2) {
                return false;
            }
            height--;
            ring.multiply(stack[height - 1], stack[height]);
            return ring.take(stack[height - 1]);
        }

        private boolean raise(int exponent) {
            if (height < 1 || height >= MOST_WAITING) {
                return false;
            }
            int[] power = stack[height - 1];
            if (exponent == 0) {
                gatherRoot(1, 0);
                return ring.take(power);
            }
            int[] base = stack[height];
            System.arraycopy(power, 0, base, 0, ring.d);
            for (int i = 2; i <= exponent; i++) {
                ring.multiply(power, base);
                if (!ring.take(power)) {
                    return false;
                }
            }
            return true;
        }
    }

    /** What was SAID last. */
    private static final class Speech {
        // A sign, seven figures, z and three figures at the most for each COEFFICIENT.
        private static final int MOST = 12 * Ring.MOST_D;
        private static final int HIGHEST_UNIT = 1000000;

        private final byte[] bytes = new byte[MOST];
        private int length;

        int write(int[] value, int d) {
            length = 0;
            for (int i = d - 1; i >= 0; i--) {
                if (value[i] != 0) {
                    putTerm(value[i], i);
                }
            }
            if (length == 0) {
                put('0');
            }
            return length;
        }

        int byteAt(int i) {
            return i >= 0 && i < length ? bytes[i] : NONE;
        }

        private void putTerm(int factor, int exponent) {
            if (factor < 0) {
                put('-');
            } else if (length > 0) {
                put('+');
            }
            int size = Math.abs(factor);
            if (size != 1 || exponent == 0) {
                putNumber(size);
            }
            if (exponent > 0) {
                put('z');
            }
            if (exponent > 1) {
                putNumber(exponent);
            }
        }

        private void putNumber(int positive) {
            for (int unit = HIGHEST_UNIT; unit > 0; unit /= 10) {
                if (positive >= unit) {
                    put('0' + positive / unit % 10);
                }
            }
        }

        private void put(int sign) {
            if (length < MOST) {
                bytes[length] = (byte) sign;
                length++;
            }
        }
    }
}
