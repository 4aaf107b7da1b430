import java.lang.management.ManagementFactory;

/** What a long run makes: the object and its rows, and beyond them only the exceptions it throws. */
final class RoomTest {
    // Rows of some twenty thousand numbers, most of four bytes.
    private static final long MOST_BYTES_MADE = 150000;
    private static final long MOST_BYTES_USED = 20000;

    public static void main(String[] args) {
        com.sun.management.ThreadMXBean meter = (com.sun.management.ThreadMXBean) ManagementFactory.getThreadMXBean();
        CharacterSums warm = new CharacterSums();
        use(warm);
        long before = meter.getCurrentThreadAllocatedBytes();
        CharacterSums sums = new CharacterSums();
        long made = meter.getCurrentThreadAllocatedBytes();
        use(sums);
        long used = meter.getCurrentThreadAllocatedBytes();
        most("bytes of a new object", made - before, MOST_BYTES_MADE);
        most("bytes of its calls", used - made, MOST_BYTES_USED);
        Check.finish();
    }

    private static void most(String what, long got, long limit) {
        System.out.println(what + ": " + got);
        Check.equal(what + " at most " + limit, (got <= limit) + "", "true");
    }

    /** 508 calls, the dearest ones among them. */
    private static void use(CharacterSums sums) {
        for (int i = 0; i < 21; i++) {
            sums.field(3, 3);
            sums.lifted(26, 26, 2);
            sums.field(23, 1);
            sums.lifted(22, 22, 2);
            sums.make(0, 0, 1, 1, 0);
            sums.make(1, 4, 0, 3, 0);
            sums.make(2, 7, 1, 0, 0);
            sums.divide(3, 0, -1);
            sums.of(0, 3);
            sums.of(0, 4);
            sums.of(0, 5);
            // (#0*~#0)^2 and blanks
            sums.feed(0x2823302a, 0x7e233029, 0x5e322020, 0x20202020, 0x20202020);
            sums.tell(4, 10);
            sums.fault();
            sums.say(4);
            sums.said(0);
            sums.solutions(1, 30, 2, 30, 3);
            sums.points(22, 11, 2, 3);
            sums.rows(6, 11, 3);
            sums.curve(1, 1);
            sums.least(7, 0);
            sums.mark(0x7fffff);
            sums.alike(3);
            sums.differences(0x7fffff);
        }
        sums.cyclotomic(11, 3, 4);
        sums.order(3);
        sums.character(3, 4);
        sums.same(0, 1);
    }
}
