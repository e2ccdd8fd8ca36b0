/** Promises 6 and 7: grid, cell. */
public final class GridTest {
    private static final Class<NullPointerException> NOTHING = NullPointerException.class;
    private static final Class<ArrayIndexOutOfBoundsException> NO_CELL = ArrayIndexOutOfBoundsException.class;
    private static final Class<NegativeArraySizeException> BELOW_0 = NegativeArraySizeException.class;

    private static final Expect expect = new Expect("GridTest");

    public static void main(String[] args) {
        noGrid();
        everySize();
        sizesByRemainder();
        below0();
        objectsAreApart();
        expect.end();
    }

    private static void noGrid() {
        FaultBench x = new FaultBench();
        expect.raises(NOTHING, "cell(0, 0)", () -> x.cell(0, 0));
        expect.raises(NOTHING, "cell(-1, 0)", () -> x.cell(-1, 0));
        expect.raises(NOTHING, "cell(0, 99)", () -> x.cell(0, 99));
    }

    private static void everySize() {
        for (int n = 0; n < 9; n++) {
            for (int m = 0; m < 9; m++) {
                FaultBench x = new FaultBench();
                int height = n;
                int width = m;
                expect.gives(n * m, "grid " + n + ", " + m, () -> x.grid(height, width));
                cellsOf(x, height, width);
            }
        }
    }

    private static void cellsOf(FaultBench x, int height, int width) {
        String size = " of " + height + ", " + width;
        for (int row = -1; row <= height; row++) {
            for (int column = -1; column <= width; column++) {
                int i = row;
                int j = column;
                String what = "cell " + i + ", " + j + size;
                if (i >= 0 && i < height && j >= 0 && j < width) {
                    expect.gives(10 * i + j, what, () -> x.cell(i, j));
                } else {
                    expect.raises(NO_CELL, what, () -> x.cell(i, j));
                }
            }
        }
        expect.raises(NO_CELL, "least row" + size, () -> x.cell(Integer.MIN_VALUE, 0));
        expect.raises(NO_CELL, "greatest row" + size, () -> x.cell(Integer.MAX_VALUE, 0));
        expect.raises(NO_CELL, "least cell" + size, () -> x.cell(0, Integer.MIN_VALUE));
        expect.raises(NO_CELL, "greatest cell" + size, () -> x.cell(0, Integer.MAX_VALUE));
    }

    private static void sizesByRemainder() {
        FaultBench x = new FaultBench();
        expect.gives(6, "grid(11, 21)", () -> x.grid(11, 21));
        cellsOf(x, 2, 3);
        expect.gives(0, "grid(9, 8)", () -> x.grid(9, 8));
        cellsOf(x, 0, 8);
        expect.gives(0, "grid(-9, -18)", () -> x.grid(-9, -18));
        cellsOf(x, 0, 0);
        expect.gives(1, "grid(2^31 - 1, 2^31 - 1)", () -> x.grid(Integer.MAX_VALUE, Integer.MAX_VALUE));
        cellsOf(x, 1, 1);
        expect.gives(64, "grid(8, 17)", () -> x.grid(8, 17));
        cellsOf(x, 8, 8);
    }

    private static void below0() {
        FaultBench x = new FaultBench();
        int[][] below = {
            {-1, 3}, {3, -1}, {-1, -1}, {0, -1}, {-1, 0}, {9, -8}, {-10, 9},
            {Integer.MIN_VALUE, 1}, {1, Integer.MIN_VALUE},
        };
        for (int[] size : below) {
            expect.raises(BELOW_0, "grid " + size[0] + ", " + size[1], () -> x.grid(size[0], size[1]));
            expect.raises(NOTHING, "cell without a grid", () -> x.cell(0, 0));
        }
        expect.gives(4, "grid(2, 2)", () -> x.grid(2, 2));
        for (int[] size : below) {
            expect.raises(BELOW_0, "grid " + size[0] + ", " + size[1], () -> x.grid(size[0], size[1]));
            cellsOf(x, 2, 2);
        }
    }

    private static void objectsAreApart() {
        FaultBench x = new FaultBench();
        FaultBench y = new FaultBench();
        expect.gives(4, "grid of x", () -> x.grid(2, 2));
        expect.raises(NOTHING, "cell of y", () -> y.cell(0, 0));
        expect.gives(9, "grid of y", () -> y.grid(3, 3));
        expect.raises(NO_CELL, "cell of x", () -> x.cell(2, 2));
        expect.gives(22, "cell of y", () -> y.cell(2, 2));
    }
}
