/**
 * A bench for what can't be done: rows of all eight kinds, a grid, boxes and numbers.
 *
 * Every fault is looked for before the machine could meet it and is thrown from here, so that a
 * call has changed nothing when it throws.
 */
public final class FaultBench {
    private static final int KINDS = 8;
    private static final int ROW_LIMIT = 40;
    private static final int GRID_LIMIT = 9;
    private static final int BOX_LIMIT = 20;

    private final Rows rows;
    private final Grid grid;
    private final BoxRow boxRow;
    private int written;
    private int came;

    public FaultBench() {
        rows = new Rows();
        grid = new Grid();
        boxRow = new BoxRow();
        written = 0;
        came = 0;
    }

    public long read(int kind, boolean there, int i) throws NullPointerException, ArrayIndexOutOfBoundsException {
        int k = kindOf(kind);
        needThere(there);
        needPlace(i, rows.cellCount(k));
        return rows.numberAt(k, i);
    }

    public int write(int kind, boolean there, int i, int v) throws NullPointerException, ArrayIndexOutOfBoundsException {
        int k = kindOf(kind);
        needThere(there);
        needPlace(i, rows.cellCount(k));
        rows.store(k, i, v);
        written++;
        return written;
    }

    public int length(int kind, boolean there) throws NullPointerException {
        needThere(there);
        return rows.cellCount(kindOf(kind));
    }

    public int make(int kind, int n) throws NegativeArraySizeException {
        int cells = n % ROW_LIMIT;
        needSize(cells);
        rows.renew(kindOf(kind), cells);
        return cells;
    }

    public int grid(int n, int m) throws NegativeArraySizeException {
        int height = n % GRID_LIMIT;
        int width = m % GRID_LIMIT;
        needSize(height);
        needSize(width);
        grid.renew(height, width);
        return height * width;
    }

    public int cell(int i, int j) throws NullPointerException, ArrayIndexOutOfBoundsException {
        needThere(grid.isMade());
        needPlace(i, grid.rowCount());
        needPlace(j, grid.columnCount());
        return grid.numberAt(i, j);
    }

    public int boxes(int n, boolean discs) throws NegativeArraySizeException {
        int places = n % BOX_LIMIT;
        needSize(places);
        boxRow.renew(places, discs);
        return places;
    }

    public int put(boolean there, int i, int what, int v) throws NullPointerException, ArrayIndexOutOfBoundsException, ArrayStoreException {
        needThere(boxRow.isMade() && there);
        needPlace(i, boxRow.placeCount());
        Box box = newBox(what, v);
        if (!boxRow.takes(box)) {
            throw new ArrayStoreException("a box that is no disc");
        }
        boxRow.store(i, box);
        came++;
        return came;
    }

    public int value(int i) throws NullPointerException, ArrayIndexOutOfBoundsException {
        return boxAt(i).value;
    }

    public int change(int i, int v) throws NullPointerException, ArrayIndexOutOfBoundsException {
        Box box = boxAt(i);
        int before = box.value;
        box.value = v;
        return before;
    }

    public int weigh(int i, int x) throws NullPointerException, ArrayIndexOutOfBoundsException {
        return boxAt(i).weightWith(x);
    }

    public int roll(int i, int x) throws NullPointerException, ArrayIndexOutOfBoundsException, ClassCastException {
        Box box = boxAt(i);
        if (box instanceof Disc disc) {
            return disc.rolledWith(x);
        }
        throw new ClassCastException("a box that is no disc");
    }

    public int divide(int a, int b, boolean rest) throws ArithmeticException {
        needDivisor(b);
        return rest ? a % b : a / b;
    }

    public long divideLong(long a, long b, boolean rest) throws ArithmeticException {
        needDivisor(b);
        return rest ? a % b : a / b;
    }

    public int raise(boolean there) throws NullPointerException, ArithmeticException {
        needThere(there);
        throw new ArithmeticException("raised");
    }

    private static int kindOf(int number) {
        return number & (KINDS - 1);
    }

    private static void needThere(boolean there) {
        if (!there) {
            throw new NullPointerException("nothing is there");
        }
    }

    private static void needPlace(int i, int count) {
        if (i < 0 || i >= count) {
            throw new ArrayIndexOutOfBoundsException("no such place");
        }
    }

    private static void needSize(int count) {
        if (count < 0) {
            throw new NegativeArraySizeException("a size below 0");
        }
    }

    private static void needDivisor(long b) {
        if (b == 0) {
            throw new ArithmeticException("a division by 0");
        }
    }

    private static Box newBox(int what, int v) {
        return switch (what & 3) {
            case 0 -> null;
            case 1 -> new Box(v);
            default -> new Disc(v);
        };
    }

    /** Never null: where there is no box it throws. */
    private Box boxAt(int i) {
        needThere(boxRow.isMade());
        needPlace(i, boxRow.placeCount());
        Box box = boxRow.boxAtPlace(i);
        if (box == null) {
            throw new NullPointerException("no box at this place");
        }
        return box;
    }

    /**
     * One row of each kind. The cells are made once, as many as a row can ever have, and used again
     * by every make, so that a run takes little room; a row's length says how many of them count.
     */
    private static final class Rows {
        private static final int FIRST_LENGTH = 3;
        private static final int MOST_CELLS = ROW_LIMIT - 1;

        private static final int INTS = 0;
        private static final int LONGS = 1;
        private static final int SHORTS = 2;
        private static final int BYTES = 3;
        private static final int CHARS = 4;
        private static final int BOOLEANS = 5;
        private static final int FLOATS = 6;

        private final int[] lengths = new int[KINDS];
        private final int[] ints = new int[MOST_CELLS];
        private final long[] longs = new long[MOST_CELLS];
        private final short[] shorts = new short[MOST_CELLS];
        private final byte[] bytes = new byte[MOST_CELLS];
        private final char[] chars = new char[MOST_CELLS];
        private final boolean[] booleans = new boolean[MOST_CELLS];
        private final float[] floats = new float[MOST_CELLS];
        private final double[] doubles = new double[MOST_CELLS];

        Rows() {
            for (int kind = 0; kind < KINDS; kind++) {
                lengths[kind] = FIRST_LENGTH;
            }
        }

        int cellCount(int kind) {
            return lengths[kind];
        }

        void renew(int kind, int cells) {
            for (int i = 0; i < cells; i++) {
                store(kind, i, 0);
            }
            lengths[kind] = cells;
        }

        long numberAt(int kind, int i) {
            return switch (kind) {
                case INTS -> ints[i];
                case LONGS -> longs[i];
                case SHORTS -> shorts[i];
                case BYTES -> bytes[i];
                case CHARS -> chars[i];
                case BOOLEANS -> booleans[i] ? 1 : 0;
                case FLOATS -> (long) floats[i];
                default -> (long) doubles[i];
            };
        }

        void store(int kind, int i, int v) {
            switch (kind) {
                case INTS -> ints[i] = v;
                case LONGS -> longs[i] = v;
                case SHORTS -> shorts[i] = (short) v;
                case BYTES -> bytes[i] = (byte) v;
                case CHARS -> chars[i] = (char) v;
                case BOOLEANS -> booleans[i] = v != 0;
                case FLOATS -> floats[i] = (float) v;
                default -> doubles[i] = (double) v;
            }
        }
    }

    /**
     * A cell has the same number in every grid, so the largest grid is filled once and each grid is
     * a corner of it.
     */
    private static final class Grid {
        private static final int MOST_CELLS = GRID_LIMIT - 1;

        private final int[][] cells = new int[MOST_CELLS][MOST_CELLS];
        private boolean made = false;
        private int height = 0;
        private int width = 0;

        Grid() {
            for (int i = 0; i < MOST_CELLS; i++) {
                for (int j = 0; j < MOST_CELLS; j++) {
                    cells[i][j] = 10 * i + j;
                }
            }
        }

        void renew(int newHeight, int newWidth) {
            made = true;
            height = newHeight;
            width = newWidth;
        }

        boolean isMade() {
            return made;
        }

        int rowCount() {
            return height;
        }

        int columnCount() {
            return width;
        }

        int numberAt(int i, int j) {
            return cells[i][j];
        }
    }

    /** THE BOXES: like the rows, its places are made once and used again. */
    private static final class BoxRow {
        private final Box[] places = new Box[BOX_LIMIT - 1];
        private boolean made = false;
        private boolean discsAlone = false;
        private int count = 0;

        void renew(int newCount, boolean discs) {
            for (int i = 0; i < newCount; i++) {
                places[i] = null;
            }
            made = true;
            discsAlone = discs;
            count = newCount;
        }

        boolean isMade() {
            return made;
        }

        int placeCount() {
            return count;
        }

        boolean takes(Box box) {
            return box == null || !discsAlone || box instanceof Disc;
        }

        void store(int i, Box box) {
            places[i] = box;
        }

        Box boxAtPlace(int i) {
            return places[i];
        }
    }

    private static class Box {
        int value;

        Box(int value) {
            this.value = value;
        }

        int weightWith(int x) {
            return value * 3 + x;
        }
    }

    private static final class Disc extends Box {
        Disc(int value) {
            super(value);
        }

        @Override
        int weightWith(int x) {
            return value * 5 - x;
        }

        int rolledWith(int x) {
            return value ^ x;
        }
    }
}
