/** Promises 14 to 16: divide, divideLong, raise. */
public final class NumbersTest {
    private static final Class<ArithmeticException> NO_NUMBER = ArithmeticException.class;

    private static final int MIN = Integer.MIN_VALUE;
    private static final int MAX = Integer.MAX_VALUE;

    /** Each row: a, b, a / b, what is left. */
    private static final int[][] OF_INTS = {
        {0, 1, 0, 0}, {0, -1, 0, 0}, {7, 2, 3, 1}, {7, -2, -3, 1}, {-7, 2, -3, -1}, {-7, -2, 3, -1}, {6, 3, 2, 0},
        {1, 2, 0, 1}, {-1, 2, 0, -1}, {1, -2, 0, 1}, {MIN, 1, MIN, 0}, {MAX, 1, MAX, 0}, {MAX, -1, -MAX, 0},
        {MIN, MAX, -1, -1}, {MAX, MIN, 0, MAX}, {MIN, MIN, 1, 0}, {MAX, MAX, 1, 0}, {MIN, 2, -1073741824, 0},
    };
    /** As OF_INTS; of the last divisors the lowest 32 bits are 0. */
    private static final long[][] OF_LONGS = {
        {0, 1, 0, 0}, {0, -1, 0, 0}, {7, 2, 3, 1}, {7, -2, -3, 1}, {-7, 2, -3, -1}, {-7, -2, 3, -1}, {1, 2, 0, 1},
        {-1, 2, 0, -1}, {MIN, -1, 2147483648L, 0}, {Long.MIN_VALUE, 1, Long.MIN_VALUE, 0},
        {Long.MAX_VALUE, -1, -Long.MAX_VALUE, 0}, {Long.MIN_VALUE, Long.MAX_VALUE, -1, -1},
        {Long.MAX_VALUE, Long.MIN_VALUE, 0, Long.MAX_VALUE}, {Long.MIN_VALUE, Long.MIN_VALUE, 1, 0},
        {10000000000L, 3, 3333333333L, 1}, {12884901889L, 4294967296L, 3, 1}, {-12884901889L, 4294967296L, -3, -1},
        {12884901889L, -4294967296L, -3, 1},
    };

    private static final Expect expect = new Expect("NumbersTest");

    public static void main(String[] args) {
        expect.sentence("Promise 14", "a / b towards 0", NumbersTest::towards0);
        expect.sentence("Promise 14", "(rest: what is left, with the sign of a)", NumbersTest::rest);
        expect.sentence("Promise 14", "as ints: -2^31 / -1 is -2^31.", NumbersTest::leastByMinus1);
        expect.sentence("Promise 14", "ArithmeticException: b is 0.", NumbersTest::by0);
        expect.sentence("Promise 15, a / b towards 0", "Likewise of longs.", NumbersTest::longTowards0);
        expect.sentence("Promise 15, rest", "Likewise of longs.", NumbersTest::longRest);
        expect.sentence("Promise 15, -2^63 / -1", "Likewise of longs.", NumbersTest::leastLongByMinus1);
        expect.sentence("Promise 15, b is 0", "Likewise of longs.", NumbersTest::longBy0);
        expect.sentence("Promise 16", "NullPointerException: there is false", NumbersTest::raiseNothing);
        expect.sentence("Promise 16", "else ArithmeticException: always.", NumbersTest::raiseAlways);
        expect.end();
    }

    private static void towards0() {
        FaultBench x = new FaultBench();
        for (int[] line : OF_INTS) {
            expect.gives(line[2], line[0] + " / " + line[1], () -> x.divide(line[0], line[1], false));
        }
    }

    private static void rest() {
        FaultBench x = new FaultBench();
        for (int[] line : OF_INTS) {
            expect.gives(line[3], "rest of " + line[0] + " / " + line[1], () -> x.divide(line[0], line[1], true));
        }
    }

    private static void leastByMinus1() {
        FaultBench x = new FaultBench();
        expect.gives(MIN, "-2^31 / -1", () -> x.divide(MIN, -1, false));
        expect.gives(0, "rest of -2^31 / -1", () -> x.divide(MIN, -1, true));
    }

    private static void by0() {
        FaultBench x = new FaultBench();
        for (int a : new int[] {0, 1, -1, MIN, MAX}) {
            expect.raises(NO_NUMBER, a + " / 0", () -> x.divide(a, 0, false));
            expect.raises(NO_NUMBER, "rest of " + a + " / 0", () -> x.divide(a, 0, true));
        }
    }

    private static void longTowards0() {
        FaultBench x = new FaultBench();
        for (long[] line : OF_LONGS) {
            expect.gives(line[2], line[0] + " / " + line[1], () -> x.divideLong(line[0], line[1], false));
        }
    }

    private static void longRest() {
        FaultBench x = new FaultBench();
        for (long[] line : OF_LONGS) {
            expect.gives(line[3], "rest of " + line[0] + " / " + line[1], () -> x.divideLong(line[0], line[1], true));
        }
    }

    private static void leastLongByMinus1() {
        FaultBench x = new FaultBench();
        expect.gives(Long.MIN_VALUE, "-2^63 / -1", () -> x.divideLong(Long.MIN_VALUE, -1, false));
        expect.gives(0, "rest of -2^63 / -1", () -> x.divideLong(Long.MIN_VALUE, -1, true));
    }

    private static void longBy0() {
        FaultBench x = new FaultBench();
        for (long a : new long[] {0, 1, -1, 4294967296L, Long.MIN_VALUE, Long.MAX_VALUE}) {
            expect.raises(NO_NUMBER, a + " / 0", () -> x.divideLong(a, 0, false));
            expect.raises(NO_NUMBER, "rest of " + a + " / 0", () -> x.divideLong(a, 0, true));
        }
    }

    private static void raiseNothing() {
        FaultBench x = new FaultBench();
        expect.raises(NullPointerException.class, "first raise", () -> x.raise(false));
        expect.raises(NullPointerException.class, "second raise", () -> x.raise(false));
    }

    private static void raiseAlways() {
        FaultBench x = new FaultBench();
        expect.raises(NO_NUMBER, "raise of a new bench", () -> x.raise(true));
        expect.raises(NO_NUMBER, "second raise", () -> x.raise(true));
        x.grid(2, 2);
        x.boxes(2, true);
        x.put(true, 0, 2, 1);
        expect.raises(NO_NUMBER, "raise of a bench in use", () -> x.raise(true));
        expect.raises(NullPointerException.class, "raise, not there", () -> x.raise(false));
        expect.raises(NO_NUMBER, "raise behind it", () -> x.raise(true));
    }
}
