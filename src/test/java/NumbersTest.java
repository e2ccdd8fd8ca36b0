/** Promises 14 to 16: divide, divideLong, raise. */
public final class NumbersTest {
    private static final Class<ArithmeticException> NO_NUMBER = ArithmeticException.class;

    private static final Expect expect = new Expect("NumbersTest");

    public static void main(String[] args) {
        divide();
        divideLong();
        raise();
        expect.end();
    }

    /** Each row: a, b, a / b, what is left. */
    private static void divide() {
        int[][] due = {
            {0, 1, 0, 0},
            {7, 2, 3, 1},
            {7, -2, -3, 1},
            {-7, 2, -3, -1},
            {-7, -2, 3, -1},
            {6, 3, 2, 0},
            {1, 2, 0, 1},
            {-1, 2, 0, -1},
            {Integer.MIN_VALUE, -1, Integer.MIN_VALUE, 0},
            {Integer.MIN_VALUE, 1, Integer.MIN_VALUE, 0},
            {Integer.MAX_VALUE, -1, -2147483647, 0},
            {Integer.MIN_VALUE, Integer.MAX_VALUE, -1, -1},
            {Integer.MAX_VALUE, Integer.MIN_VALUE, 0, Integer.MAX_VALUE},
            {Integer.MIN_VALUE, Integer.MIN_VALUE, 1, 0},
        };
        FaultBench x = new FaultBench();
        for (int[] line : due) {
            String what = line[0] + ", " + line[1];
            expect.gives(line[2], "divide " + what, () -> x.divide(line[0], line[1], false));
            expect.gives(line[3], "rest " + what, () -> x.divide(line[0], line[1], true));
        }
        for (int a : new int[] {0, 1, -1, Integer.MIN_VALUE, Integer.MAX_VALUE}) {
            expect.raises(NO_NUMBER, "divide by 0: " + a, () -> x.divide(a, 0, false));
            expect.raises(NO_NUMBER, "rest by 0: " + a, () -> x.divide(a, 0, true));
        }
    }

    /** As divide's rows; the last divisors are 0 in their lowest 32 bits. */
    private static void divideLong() {
        long[][] due = {
            {0, 1, 0, 0},
            {7, 2, 3, 1},
            {7, -2, -3, 1},
            {-7, 2, -3, -1},
            {-7, -2, 3, -1},
            {Integer.MIN_VALUE, -1, 2147483648L, 0},
            {Long.MIN_VALUE, -1, Long.MIN_VALUE, 0},
            {Long.MAX_VALUE, -1, -Long.MAX_VALUE, 0},
            {Long.MIN_VALUE, Long.MAX_VALUE, -1, -1},
            {Long.MAX_VALUE, Long.MIN_VALUE, 0, Long.MAX_VALUE},
            {10000000000L, 3, 3333333333L, 1},
            {12884901889L, 4294967296L, 3, 1},
            {-12884901889L, 4294967296L, -3, -1},
        };
        FaultBench x = new FaultBench();
        for (long[] line : due) {
            String what = line[0] + ", " + line[1];
            expect.gives(line[2], "divideLong " + what, () -> x.divideLong(line[0], line[1], false));
            expect.gives(line[3], "restLong " + what, () -> x.divideLong(line[0], line[1], true));
        }
        for (long a : new long[] {0, 1, -1, Long.MIN_VALUE, Long.MAX_VALUE}) {
            expect.raises(NO_NUMBER, "divideLong by 0: " + a, () -> x.divideLong(a, 0, false));
            expect.raises(NO_NUMBER, "restLong by 0: " + a, () -> x.divideLong(a, 0, true));
        }
    }

    private static void raise() {
        FaultBench x = new FaultBench();
        for (int time = 0; time < 3; time++) {
            expect.raises(NullPointerException.class, "raise(false)", () -> x.raise(false));
            expect.raises(NO_NUMBER, "raise(true)", () -> x.raise(true));
        }
    }
}
