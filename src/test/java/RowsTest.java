/** Promises 1 to 5: a new object, read, write, length, make. */
public final class RowsTest {
    private static final Class<NullPointerException> NOTHING = NullPointerException.class;
    private static final Class<ArrayIndexOutOfBoundsException> NO_CELL = ArrayIndexOutOfBoundsException.class;
    private static final Class<NegativeArraySizeException> BELOW_0 = NegativeArraySizeException.class;

    private static final int MIN = Integer.MIN_VALUE;
    private static final int MAX = Integer.MAX_VALUE;
    private static final int[] KINDS = {0, 1, 2, 3, 4, 5, 6, 7};
    private static final int[] LENGTHS = {0, 1, 2, 3, 38, 39};

    private static final Expect expect = new Expect("RowsTest");

    private interface CellCall {
        long on(FaultBench x, int kind, boolean there, int i);
    }

    private static final CellCall READ = FaultBench::read;
    private static final CellCall WRITE = (x, kind, there, i) -> x.write(kind, there, i, 1);

    public static void main(String[] args) {
        newObject();
        read();
        write();
        length();
        make();
        objectsAreApart();
        expect.end();
    }

    private static void newObject() {
        expect.sentence("Promise 1", "Eight rows of three cells", RowsTest::newRows);
        expect.sentence("Promise 1", "no grid", RowsTest::newHasNoGrid);
        expect.sentence("Promise 1", "no boxes", RowsTest::newHasNoBoxes);
    }

    private static void read() {
        expect.sentence("Promise 2", "What is at i of the KIND's row.", RowsTest::readEveryCell);
        expect.sentence("Promise 2", "NullPointerException: there is false.", () -> raiseNothing(READ));
        expect.sentence("Promise 2, i is too small", "ArrayIndexOutOfBoundsException: i is not in the row.",
            () -> raiseBelow(READ));
        expect.sentence("Promise 2, i is too large", "ArrayIndexOutOfBoundsException: i is not in the row.",
            () -> raiseBehind(READ));
    }

    private static void write() {
        expect.sentence("Promise 3", "v comes to i of the KIND's row", RowsTest::writeEveryCell);
        expect.sentence("Promise 3", "how many were written so far", RowsTest::countOfWritten);
        expect.sentence("Promise 3, there is false", "As read.", () -> raiseNothing(WRITE));
        expect.sentence("Promise 3, i is too small", "As read.", () -> raiseBelow(WRITE));
        expect.sentence("Promise 3, i is too large", "As read.", () -> raiseBehind(WRITE));
    }

    private static void length() {
        expect.sentence("Promise 4", "How many cells the KIND's row has.", RowsTest::lengths);
        expect.sentence("Promise 4", "NullPointerException: there is false.", RowsTest::lengthOfNothing);
    }

    private static void make() {
        expect.sentence("Promise 5", "The KIND's row is made anew", RowsTest::makeOneKind);
        expect.sentence("Promise 5", "with n % 40 cells (what is left has the sign of n)", RowsTest::makeByWhatIsLeft);
        expect.sentence("Promise 5", "all 0", RowsTest::makeAll0);
        expect.sentence("Promise 5", "how many", RowsTest::makeTellsHowMany);
        expect.sentence("Promise 5", "NegativeArraySizeException: these are below 0.", RowsTest::makeBelow0);
    }

    private static FaultBench withRow(int kind, int cells) {
        FaultBench x = new FaultBench();
        x.make(kind, cells);
        return x;
    }

    private static void newRows() {
        for (int k : KINDS) {
            FaultBench x = new FaultBench();
            expect.gives(3, "length of " + k, () -> x.length(k, true));
            expect.gives(0, "first cell of " + k, () -> x.read(k, true, 0));
            expect.gives(0, "last cell of " + k, () -> x.read(k, true, 2));
            expect.raises(NO_CELL, "fourth cell of " + k, () -> x.read(k, true, 3));
            expect.gives(1, "first write", () -> x.write(k, true, 2, 0));
        }
    }

    private static void newHasNoGrid() {
        FaultBench x = new FaultBench();
        expect.raises(NOTHING, "cell", () -> x.cell(0, 0));
    }

    private static void newHasNoBoxes() {
        FaultBench x = new FaultBench();
        expect.raises(NOTHING, "put", () -> x.put(true, 0, 1, 1));
        expect.raises(NOTHING, "value", () -> x.value(0));
        expect.raises(NOTHING, "change", () -> x.change(0, 1));
        expect.raises(NOTHING, "weigh", () -> x.weigh(0, 1));
        expect.raises(NOTHING, "roll", () -> x.roll(0, 1));
        expect.gives(1, "boxes", () -> x.boxes(1, false));
        expect.gives(1, "first put", () -> x.put(true, 0, 1, 1));
    }

    private static void readEveryCell() {
        for (int k : KINDS) {
            FaultBench x = withRow(k, 39);
            for (int cell = 0; cell < 39; cell++) {
                x.write(k, true, cell, k == 5 ? cell % 2 : cell + 1);
            }
            for (int cell = 0; cell < 39; cell++) {
                int i = cell;
                expect.gives(k == 5 ? i % 2 : i + 1, "read " + k + " at " + i, () -> x.read(k, true, i));
                expect.gives(k == 5 ? i % 2 : i + 1, "read " + k + " again at " + i, () -> x.read(k, true, i));
            }
        }
    }

    private static void raiseNothing(CellCall call) {
        for (int k : KINDS) {
            for (int cells : LENGTHS) {
                FaultBench x = withRow(k, cells);
                expect.raises(NOTHING, k + " of " + cells, () -> call.on(x, k, false, 0));
            }
        }
    }

    private static void raiseBelow(CellCall call) {
        for (int k : KINDS) {
            for (int cells : LENGTHS) {
                FaultBench x = withRow(k, cells);
                for (int i : new int[] {-1, -2, -cells - 1, -256, -65536, MIN}) {
                    expect.raises(NO_CELL, k + " of " + cells + " at " + i, () -> call.on(x, k, true, i));
                }
            }
        }
    }

    private static void raiseBehind(CellCall call) {
        for (int k : KINDS) {
            for (int cells : LENGTHS) {
                FaultBench x = withRow(k, cells);
                for (int i : new int[] {cells, cells + 1, 39, 40, 256, 65536, MAX}) {
                    expect.raises(NO_CELL, k + " of " + cells + " at " + i, () -> call.on(x, k, true, i));
                }
            }
        }
    }

    private static void writeEveryCell() {
        for (int k : KINDS) {
            for (int cell = 0; cell < 39; cell++) {
                FaultBench x = withRow(k, 39);
                int at = cell;
                x.write(k, true, at, 1);
                for (int other = 0; other < 39; other++) {
                    int i = other;
                    expect.gives(i == at ? 1 : 0, "read " + k + " at " + i + " behind " + at, () -> x.read(k, true, i));
                }
            }
        }
    }

    private static void countOfWritten() {
        FaultBench x = new FaultBench();
        expect.gives(1, "first write", () -> x.write(0, true, 0, 5));
        expect.gives(2, "second write, same cell", () -> x.write(0, true, 0, 5));
        expect.gives(3, "third write, other kind", () -> x.write(5, true, 0, 5));
        expect.raises(NO_CELL, "write that throws", () -> x.write(5, true, 3, 5));
        expect.raises(NOTHING, "write that throws", () -> x.write(5, false, 0, 5));
        expect.gives(0, "make", () -> x.make(0, 0));
        expect.raises(NO_CELL, "write to an empty row", () -> x.write(0, true, 0, 5));
        expect.gives(2, "make", () -> x.make(0, 2));
        expect.gives(0, "read", () -> x.read(0, true, 0));
        expect.gives(1, "boxes", () -> x.boxes(1, false));
        expect.gives(1, "a put has a count of its own", () -> x.put(true, 0, 1, 5));
        expect.gives(4, "write behind throws and a make", () -> x.write(0, true, 0, 5));
    }

    private static void lengths() {
        for (int k : KINDS) {
            for (int cells : LENGTHS) {
                FaultBench x = withRow(k, cells);
                expect.gives(cells, "length of " + k, () -> x.length(k, true));
                expect.gives(3, "length of the next kind", () -> x.length(k + 1, true));
            }
        }
    }

    private static void lengthOfNothing() {
        for (int k : KINDS) {
            for (int cells : LENGTHS) {
                FaultBench x = withRow(k, cells);
                expect.raises(NOTHING, "length of " + k + " of " + cells, () -> x.length(k, false));
            }
        }
    }

    private static void makeOneKind() {
        for (int k : KINDS) {
            FaultBench x = new FaultBench();
            for (int other : KINDS) {
                x.write(other, true, 2, 1);
            }
            expect.gives(3, "make " + k, () -> x.make(k, 3));
            for (int other : KINDS) {
                expect.gives(other == k ? 0 : 1, "read " + other + " behind " + k, () -> x.read(other, true, 2));
            }
        }
    }

    /** Each row: n, and what is left of it. */
    private static void makeByWhatIsLeft() {
        int[][] due = {
            {0, 0}, {1, 1}, {38, 38}, {39, 39}, {40, 0}, {41, 1}, {79, 39}, {80, 0}, {2147483640, 0}, {MAX, 7},
            {-40, 0}, {-80, 0}, {-2147483640, 0},
        };
        for (int k : KINDS) {
            for (int[] line : due) {
                FaultBench x = new FaultBench();
                expect.gives(line[1], "make " + k + " with " + line[0], () -> x.make(k, line[0]));
                expect.gives(line[1], "length behind make " + k + " with " + line[0], () -> x.length(k, true));
                expect.raises(NO_CELL, "read behind make " + k + " with " + line[0], () -> x.read(k, true, line[1]));
            }
            for (int n : new int[] {-1, -39, -41, MIN}) {
                FaultBench x = new FaultBench();
                expect.raises(BELOW_0, "make " + k + " with " + n, () -> x.make(k, n));
            }
        }
    }

    /** Cells that an earlier row had are 0 again, and those that a shorter row between had not. */
    private static void makeAll0() {
        for (int k : KINDS) {
            FaultBench x = withRow(k, 39);
            for (int next : new int[] {39, 3, 38, 0, 39}) {
                int cells = x.length(k, true);
                for (int i = 0; i < cells; i++) {
                    x.write(k, true, i, -1);
                }
                x.make(k, next);
                for (int cell = 0; cell < next; cell++) {
                    int i = cell;
                    expect.gives(0, "read " + k + " of " + next + " at " + i, () -> x.read(k, true, i));
                }
            }
        }
    }

    private static void makeTellsHowMany() {
        for (int k : KINDS) {
            FaultBench x = new FaultBench();
            for (int n = 0; n < 40; n++) {
                int cells = n;
                expect.gives(cells, "make " + k + " with " + cells, () -> x.make(k, cells));
            }
        }
    }

    private static void makeBelow0() {
        for (int k : KINDS) {
            FaultBench x = new FaultBench();
            for (int n : new int[] {-1, -2, -38, -39, -41, -79, -81, -2147483647, MIN}) {
                expect.raises(BELOW_0, "make " + k + " with " + n, () -> x.make(k, n));
                expect.gives(3, "length behind make " + k + " with " + n, () -> x.length(k, true));
            }
        }
    }

    private static void objectsAreApart() {
        FaultBench x = new FaultBench();
        FaultBench y = new FaultBench();
        expect.gives(1, "write to x", () -> x.write(0, true, 0, 9));
        expect.gives(5, "make of x", () -> x.make(1, 5));
        expect.gives(0, "read of y", () -> y.read(0, true, 0));
        expect.gives(3, "length of y", () -> y.length(1, true));
        expect.gives(1, "write to y", () -> y.write(0, true, 0, 8));
        expect.gives(9, "read of x", () -> x.read(0, true, 0));
    }
}
