/** Promises 6 and 7: grid, cell. */
public final class GridTest {
    private static final Class<NullPointerException> NOTHING = NullPointerException.class;
    private static final Class<ArrayIndexOutOfBoundsException> NO_CELL = ArrayIndexOutOfBoundsException.class;
    private static final Class<NegativeArraySizeException> BELOW_0 = NegativeArraySizeException.class;

    private static final int MIN = Integer.MIN_VALUE;
    private static final int MAX = Integer.MAX_VALUE;
    private static final int[] BELOW = {-1, -8, -10, -17, -2147483647, MIN};
    private static final int[] NOT_BELOW = {0, 1, 8, 9, -9, MAX};
    /** Each row: n, and what is left of it. */
    private static final int[][] LEFT = {
        {0, 0}, {1, 1}, {8, 8}, {9, 0}, {10, 1}, {17, 8}, {18, 0}, {MAX, 1}, {-9, 0}, {-18, 0}, {-2147483646, 0},
    };

    private static final Expect expect = new Expect("GridTest");

    public static void main(String[] args) {
        grid();
        cell();
        objectsAreApart();
        expect.end();
    }

    private static void grid() {
        expect.sentence("Promise 6", "A grid of n % 9 rows", GridTest::rowsByWhatIsLeft);
        expect.sentence("Promise 6", "of m % 9 cells is made", GridTest::cellsByWhatIsLeft);
        expect.sentence("Promise 6, made anew", "of m % 9 cells is made", GridTest::madeAnew);
        expect.sentence("Promise 6", "cell j of row i has 10 * i + j", GridTest::everyCell);
        expect.sentence("Promise 6", "how many cells in all", GridTest::tellsHowMany);
        expect.sentence("Promise 6", "NegativeArraySizeException: n % 9", GridTest::rowsBelow0);
        expect.sentence("Promise 6", "or m % 9 is below 0.", GridTest::cellsBelow0);
        expect.sentence("Promise 6, both", "or m % 9 is below 0.", GridTest::bothBelow0);
    }

    private static void cell() {
        expect.sentence("Promise 7", "Cell j of the grid's row i.", GridTest::corners);
        expect.sentence("Promise 7", "NullPointerException: there is no grid.", GridTest::noGrid);
        expect.sentence("Promise 7, refused grid", "NullPointerException: there is no grid.", GridTest::noGridBehindRefusal);
        expect.sentence("Promise 7, i is too small", "ArrayIndexOutOfBoundsException: no such row", GridTest::rowBelow);
        expect.sentence("Promise 7, i is too large", "ArrayIndexOutOfBoundsException: no such row", GridTest::rowBehind);
        expect.sentence("Promise 7, j is too small", "no such cell.", GridTest::cellBelow);
        expect.sentence("Promise 7, j is too large", "no such cell.", GridTest::cellBehind);
        expect.sentence("Promise 7, rows without cells", "no such cell.", GridTest::rowsWithoutCells);
    }

    private static FaultBench withGrid(int n, int m) {
        FaultBench x = new FaultBench();
        x.grid(n, m);
        return x;
    }

    private static void rowsByWhatIsLeft() {
        for (int[] line : LEFT) {
            FaultBench x = withGrid(line[0], 1);
            String what = " of a grid with " + line[0] + " rows";
            if (line[1] > 0) {
                expect.gives(10 * (line[1] - 1), "last row" + what, () -> x.cell(line[1] - 1, 0));
            }
            expect.raises(NO_CELL, "behind the last row" + what, () -> x.cell(line[1], 0));
        }
    }

    private static void cellsByWhatIsLeft() {
        for (int[] line : LEFT) {
            FaultBench x = withGrid(1, line[0]);
            String what = " of a grid with rows of " + line[0];
            if (line[1] > 0) {
                expect.gives(line[1] - 1, "last cell" + what, () -> x.cell(0, line[1] - 1));
            }
            expect.raises(NO_CELL, "behind the last cell" + what, () -> x.cell(0, line[1]));
        }
    }

    private static void madeAnew() {
        FaultBench x = withGrid(8, 8);
        expect.gives(6, "a smaller grid", () -> x.grid(2, 3));
        expect.gives(12, "its last cell", () -> x.cell(1, 2));
        expect.raises(NO_CELL, "a row that it has not", () -> x.cell(2, 0));
        expect.raises(NO_CELL, "a cell that it has not", () -> x.cell(0, 3));
        expect.gives(0, "an empty grid", () -> x.grid(0, 0));
        expect.raises(NO_CELL, "a row that it has not", () -> x.cell(0, 0));
        expect.gives(64, "a greater grid", () -> x.grid(8, 8));
        expect.gives(77, "its last cell", () -> x.cell(7, 7));
    }

    private static void everyCell() {
        for (int height = 0; height < 9; height++) {
            for (int width = 0; width < 9; width++) {
                FaultBench x = withGrid(height, width);
                String size = " of " + height + ", " + width;
                for (int cell = 0; cell < height * width; cell++) {
                    int i = cell / width;
                    int j = cell % width;
                    expect.gives(10 * i + j, "cell " + i + ", " + j + size, () -> x.cell(i, j));
                }
            }
        }
    }

    private static void corners() {
        FaultBench x = withGrid(2, 8);
        expect.gives(0, "first cell of the first row", () -> x.cell(0, 0));
        expect.gives(7, "last cell of the first row", () -> x.cell(0, 7));
        expect.gives(10, "first cell of the last row", () -> x.cell(1, 0));
        expect.gives(17, "last cell of the last row", () -> x.cell(1, 7));
    }

    private static void tellsHowMany() {
        FaultBench x = new FaultBench();
        for (int[] rows : LEFT) {
            for (int[] cells : LEFT) {
                expect.gives(rows[1] * cells[1], "grid " + rows[0] + ", " + cells[0], () -> x.grid(rows[0], cells[0]));
            }
        }
    }

    private static void rowsBelow0() {
        FaultBench x = new FaultBench();
        for (int n : BELOW) {
            for (int m : NOT_BELOW) {
                expect.raises(BELOW_0, "grid " + n + ", " + m, () -> x.grid(n, m));
            }
        }
    }

    private static void cellsBelow0() {
        FaultBench x = new FaultBench();
        for (int n : NOT_BELOW) {
            for (int m : BELOW) {
                expect.raises(BELOW_0, "grid " + n + ", " + m, () -> x.grid(n, m));
            }
        }
    }

    private static void bothBelow0() {
        FaultBench x = new FaultBench();
        for (int n : BELOW) {
            for (int m : BELOW) {
                expect.raises(BELOW_0, "grid " + n + ", " + m, () -> x.grid(n, m));
            }
        }
    }

    private static void noGrid() {
        FaultBench x = new FaultBench();
        expect.raises(NOTHING, "cell", () -> x.cell(0, 0));
        expect.gives(0, "an empty grid", () -> x.grid(0, 0));
        expect.raises(NO_CELL, "cell of an empty grid", () -> x.cell(0, 0));
    }

    private static void noGridBehindRefusal() {
        int[][] refused = {{-1, 1}, {1, -1}, {-1, -1}, {0, -1}, {-1, 0}};
        for (int[] size : refused) {
            FaultBench x = new FaultBench();
            expect.raises(BELOW_0, "grid " + size[0] + ", " + size[1], () -> x.grid(size[0], size[1]));
            expect.raises(NOTHING, "cell behind grid " + size[0] + ", " + size[1], () -> x.cell(0, 0));
        }
    }

    private static void rowBelow() {
        for (int height : new int[] {0, 1, 2, 8}) {
            FaultBench x = withGrid(height, 3);
            for (int i : new int[] {-1, -2, -height - 1, MIN}) {
                expect.raises(NO_CELL, "row " + i + " of " + height, () -> x.cell(i, 0));
            }
        }
    }

    private static void rowBehind() {
        for (int height : new int[] {0, 1, 2, 8}) {
            FaultBench x = withGrid(height, 3);
            for (int i : new int[] {height, height + 1, 8, 9, MAX}) {
                expect.raises(NO_CELL, "row " + i + " of " + height, () -> x.cell(i, 0));
            }
        }
    }

    private static void cellBelow() {
        for (int width : new int[] {0, 1, 2, 8}) {
            FaultBench x = withGrid(3, width);
            for (int j : new int[] {-1, -2, -width - 1, MIN}) {
                expect.raises(NO_CELL, "cell " + j + " of " + width, () -> x.cell(0, j));
                expect.raises(NO_CELL, "cell " + j + " of " + width + ", last row", () -> x.cell(2, j));
            }
        }
    }

    private static void cellBehind() {
        for (int width : new int[] {0, 1, 2, 8}) {
            FaultBench x = withGrid(3, width);
            for (int j : new int[] {width, width + 1, 8, 9, MAX}) {
                expect.raises(NO_CELL, "cell " + j + " of " + width, () -> x.cell(0, j));
                expect.raises(NO_CELL, "cell " + j + " of " + width + ", last row", () -> x.cell(2, j));
            }
        }
    }

    private static void rowsWithoutCells() {
        FaultBench x = new FaultBench();
        expect.gives(0, "a grid of rows without cells", () -> x.grid(8, 0));
        expect.raises(NO_CELL, "first row", () -> x.cell(0, 0));
        expect.raises(NO_CELL, "last row", () -> x.cell(7, 0));
    }

    private static void objectsAreApart() {
        FaultBench x = new FaultBench();
        FaultBench y = new FaultBench();
        expect.gives(4, "grid of x", () -> x.grid(2, 2));
        expect.raises(NOTHING, "cell of y", () -> y.cell(0, 0));
        expect.gives(9, "grid of y", () -> y.grid(3, 3));
        expect.raises(NO_CELL, "cell of x", () -> x.cell(2, 2));
        expect.gives(22, "cell of y", () -> y.cell(2, 2));
    }
}
