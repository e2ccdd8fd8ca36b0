/** Promises 1 to 5: a new object, read, write, length, make. */
public final class RowsTest {
    private static final Class<NullPointerException> NOTHING = NullPointerException.class;
    private static final Class<ArrayIndexOutOfBoundsException> NO_CELL = ArrayIndexOutOfBoundsException.class;
    private static final Class<NegativeArraySizeException> BELOW_0 = NegativeArraySizeException.class;

    private static final Expect expect = new Expect("RowsTest");

    public static void main(String[] args) {
        newObject();
        writtenValues();
        countOfWritten();
        kindByLowestThreeBits();
        kindsAreApart();
        objectsAreApart();
        nothingThere();
        noSuchCell();
        make();
        makeBelow0();
        throwingChangesNothing();
        expect.end();
    }

    private static void newObject() {
        FaultBench x = new FaultBench();
        for (int kind = 0; kind < 8; kind++) {
            int k = kind;
            expect.gives(3, "new: length of " + k, () -> x.length(k, true));
            for (int cell = 0; cell < 3; cell++) {
                int i = cell;
                expect.gives(0, "new: read of " + k + " at " + i, () -> x.read(k, true, i));
            }
        }
        expect.raises(NOTHING, "new: cell", () -> x.cell(0, 0));
        expect.raises(NOTHING, "new: value", () -> x.value(0));
        expect.raises(NOTHING, "new: put", () -> x.put(true, 0, 1, 1));
        expect.gives(1, "new: the first write", () -> x.write(0, true, 0, 0));
        expect.gives(1, "new: boxes", () -> x.boxes(1, false));
        expect.gives(1, "new: the first put", () -> x.put(true, 0, 1, 1));
    }

    /** Each row: the value written, then what is read of it in each of the eight kinds. */
    private static void writtenValues() {
        long[][] due = {
            {0, 0, 0, 0, 0, 0, 0, 0, 0},
            {1, 1, 1, 1, 1, 1, 1, 1, 1},
            {-1, -1, -1, -1, -1, 65535, 1, -1, -1},
            {127, 127, 127, 127, 127, 127, 1, 127, 127},
            {128, 128, 128, 128, -128, 128, 1, 128, 128},
            {-129, -129, -129, -129, 127, 65407, 1, -129, -129},
            {256, 256, 256, 256, 0, 256, 1, 256, 256},
            {32767, 32767, 32767, 32767, -1, 32767, 1, 32767, 32767},
            {32768, 32768, 32768, -32768, 0, 32768, 1, 32768, 32768},
            {-32769, -32769, -32769, 32767, -1, 32767, 1, -32769, -32769},
            {65535, 65535, 65535, -1, -1, 65535, 1, 65535, 65535},
            {65536, 65536, 65536, 0, 0, 0, 1, 65536, 65536},
            {-70000, -70000, -70000, -4464, -112, 61072, 1, -70000, -70000},
            {16777216, 16777216, 16777216, 0, 0, 0, 1, 16777216, 16777216},
            {16777217, 16777217, 16777217, 1, 1, 1, 1, 16777216, 16777217},
            {16777218, 16777218, 16777218, 2, 2, 2, 1, 16777218, 16777218},
            {16777219, 16777219, 16777219, 3, 3, 3, 1, 16777220, 16777219},
            {-16777217, -16777217, -16777217, -1, -1, 65535, 1, -16777216, -16777217},
            {-16777219, -16777219, -16777219, -3, -3, 65533, 1, -16777220, -16777219},
            {33554435, 33554435, 33554435, 3, 3, 3, 1, 33554436, 33554435},
            {2147483583, 2147483583, 2147483583, -65, -65, 65471, 1, 2147483520, 2147483583},
            {2147483584, 2147483584, 2147483584, -64, -64, 65472, 1, 2147483648L, 2147483584},
            {2147483647, 2147483647, 2147483647, -1, -1, 65535, 1, 2147483648L, 2147483647},
            {-2147483648, -2147483648, -2147483648, 0, 0, 0, 1, -2147483648, -2147483648},
        };
        for (long[] line : due) {
            FaultBench x = new FaultBench();
            int v = (int) line[0];
            for (int kind = 0; kind < 8; kind++) {
                int k = kind;
                expect.gives(k + 1, "write of " + v + " to " + k, () -> x.write(k, true, 1, v));
                expect.gives(line[k + 1], "read of " + v + " from " + k, () -> x.read(k, true, 1));
                expect.gives(0, "read beside " + v + " from " + k, () -> x.read(k, true, 0));
                expect.gives(0, "read beside " + v + " from " + k, () -> x.read(k, true, 2));
            }
        }
    }

    private static void countOfWritten() {
        FaultBench x = new FaultBench();
        expect.gives(1, "first write", () -> x.write(0, true, 0, 5));
        expect.gives(2, "second write, same cell", () -> x.write(0, true, 0, 5));
        expect.gives(3, "third write, other kind", () -> x.write(5, true, 0, 5));
        expect.raises(NO_CELL, "write that throws", () -> x.write(5, true, 3, 5));
        expect.raises(NOTHING, "write that throws", () -> x.write(5, false, 0, 5));
        expect.gives(2, "make", () -> x.make(0, 2));
        expect.gives(0, "read", () -> x.read(0, true, 0));
        expect.gives(4, "write behind throws and a make", () -> x.write(0, true, 0, 5));
    }

    private static void kindByLowestThreeBits() {
        FaultBench x = new FaultBench();
        expect.gives(1, "write to kind 11", () -> x.write(11, true, 0, 200));
        expect.gives(-56, "read of kind 3", () -> x.read(3, true, 0));
        expect.gives(-56, "read of kind -5", () -> x.read(-5, true, 0));
        expect.gives(2, "write to kind -1", () -> x.write(-1, true, 2, 77));
        expect.gives(77, "read of kind 7", () -> x.read(7, true, 2));
        expect.gives(77, "read of kind 2^31 - 1", () -> x.read(Integer.MAX_VALUE, true, 2));
        expect.gives(6, "make of kind -2^31", () -> x.make(Integer.MIN_VALUE, 6));
        expect.gives(6, "length of kind 0", () -> x.length(0, true));
        expect.gives(6, "length of kind 8", () -> x.length(8, true));
        expect.gives(3, "length of kind 9", () -> x.length(9, true));
    }

    private static void kindsAreApart() {
        FaultBench x = new FaultBench();
        for (int kind = 0; kind < 8; kind++) {
            int k = kind;
            expect.gives(10 + k, "make " + k, () -> x.make(k, 10 + k));
            expect.gives(k + 1, "write " + k, () -> x.write(k, true, 9 + k, k == 5 ? 1 : 20 + k));
        }
        for (int kind = 0; kind < 8; kind++) {
            int k = kind;
            expect.gives(10 + k, "length " + k, () -> x.length(k, true));
            expect.gives(k == 5 ? 1 : 20 + k, "last cell " + k, () -> x.read(k, true, 9 + k));
            expect.raises(NO_CELL, "behind the last cell " + k, () -> x.read(k, true, 10 + k));
        }
    }

    private static void objectsAreApart() {
        FaultBench x = new FaultBench();
        FaultBench y = new FaultBench();
        expect.gives(1, "write to x", () -> x.write(0, true, 0, 9));
        expect.gives(5, "make of x", () -> x.make(1, 5));
        expect.gives(0, "read of y", () -> y.read(0, true, 0));
        expect.gives(3, "length of y", () -> y.length(1, true));
        expect.gives(1, "write to y", () -> y.write(0, true, 0, 8));
        expect.gives(9, "read of x", () -> x.read(0, true, 0));
    }

    private static void nothingThere() {
        FaultBench x = new FaultBench();
        for (int kind = 0; kind < 8; kind++) {
            int k = kind;
            expect.raises(NOTHING, "read " + k, () -> x.read(k, false, 0));
            expect.raises(NOTHING, "write " + k, () -> x.write(k, false, 0, 1));
            expect.raises(NOTHING, "length " + k, () -> x.length(k, false));
            expect.raises(NOTHING, "read without cell " + k, () -> x.read(k, false, 3));
            expect.raises(NOTHING, "read without cell " + k, () -> x.read(k, false, -1));
            expect.raises(NOTHING, "write without cell " + k, () -> x.write(k, false, 3, 1));
        }
    }

    private static void noSuchCell() {
        FaultBench x = new FaultBench();
        int[] outside = {-1, 3, 4, 39, 40, Integer.MIN_VALUE, Integer.MAX_VALUE};
        for (int kind = 0; kind < 8; kind++) {
            int k = kind;
            for (int i : outside) {
                expect.raises(NO_CELL, "read " + k + " at " + i, () -> x.read(k, true, i));
                expect.raises(NO_CELL, "write " + k + " at " + i, () -> x.write(k, true, i, 1));
            }
        }
    }

    private static void make() {
        long[][] due = {
            {0, 0}, {1, 1}, {2, 2}, {39, 39}, {40, 0}, {41, 1}, {79, 39}, {80, 0},
            {-40, 0}, {-80, 0}, {Integer.MAX_VALUE, 7},
        };
        for (int kind = 0; kind < 8; kind++) {
            int k = kind;
            FaultBench x = new FaultBench();
            for (long[] line : due) {
                int n = (int) line[0];
                int cells = (int) line[1];
                expect.gives(cells, "make " + k + " with " + n, () -> x.make(k, n));
                expect.gives(cells, "length " + k + " behind make with " + n, () -> x.length(k, true));
                expect.raises(NO_CELL, "read " + k + " behind make with " + n, () -> x.read(k, true, cells));
                fillOfZeros(x, k, cells);
            }
        }
    }

    /** All cells are 0, and are 1 behind it, so that the next make has something to lose. */
    private static void fillOfZeros(FaultBench x, int kind, int cells) {
        for (int cell = 0; cell < cells; cell++) {
            int i = cell;
            expect.gives(0, "read " + kind + " at " + i + " of " + cells, () -> x.read(kind, true, i));
            x.write(kind, true, i, 1);
            expect.gives(1, "read " + kind + " at " + i + " behind write", () -> x.read(kind, true, i));
        }
    }

    private static void makeBelow0() {
        int[] below = {-1, -3, -39, -41, -79, Integer.MIN_VALUE};
        for (int kind = 0; kind < 8; kind++) {
            int k = kind;
            FaultBench x = new FaultBench();
            x.write(k, true, 2, 1);
            for (int n : below) {
                expect.raises(BELOW_0, "make " + k + " with " + n, () -> x.make(k, n));
                expect.gives(3, "length " + k + " behind make with " + n, () -> x.length(k, true));
                expect.gives(1, "read " + k + " behind make with " + n, () -> x.read(k, true, 2));
            }
        }
    }

    private static void throwingChangesNothing() {
        FaultBench x = new FaultBench();
        expect.gives(1, "write", () -> x.write(0, true, 0, 6));
        expect.raises(NOTHING, "write, nothing there", () -> x.write(0, false, 0, 7));
        expect.raises(NO_CELL, "write, no cell", () -> x.write(0, true, 3, 7));
        expect.gives(6, "read", () -> x.read(0, true, 0));
        expect.gives(4, "make", () -> x.make(0, 4));
        expect.gives(0, "read of the cell that was not there", () -> x.read(0, true, 3));
    }
}
