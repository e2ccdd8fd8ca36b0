/** Promises 8 to 13: boxes, put, value, change, weigh, roll. */
public final class BoxesTest {
    private static final Class<NullPointerException> NOTHING = NullPointerException.class;
    private static final Class<ArrayIndexOutOfBoundsException> NO_PLACE = ArrayIndexOutOfBoundsException.class;
    private static final Class<NegativeArraySizeException> BELOW_0 = NegativeArraySizeException.class;
    private static final Class<ArrayStoreException> NO_DISC = ArrayStoreException.class;
    private static final Class<ClassCastException> NO_ROLL = ClassCastException.class;

    private static final Expect expect = new Expect("BoxesTest");

    public static void main(String[] args) {
        noBoxes();
        sizes();
        sizesBelow0();
        madeAnew();
        whatByLowestTwoBits();
        putInOrderOfExceptions();
        countOfPut();
        rowOfDiscs();
        noSuchPlace();
        nothingAtPlace();
        change();
        weigh();
        roll();
        objectsAreApart();
        expect.end();
    }

    private static void allRaise(Class<? extends RuntimeException> due, FaultBench x, int i) {
        expect.raises(due, "value at " + i, () -> x.value(i));
        expect.raises(due, "change at " + i, () -> x.change(i, 1));
        expect.raises(due, "weigh at " + i, () -> x.weigh(i, 1));
        expect.raises(due, "roll at " + i, () -> x.roll(i, 1));
    }

    private static void noBoxes() {
        FaultBench x = new FaultBench();
        for (int i : new int[] {0, -1, 20, Integer.MIN_VALUE, Integer.MAX_VALUE}) {
            allRaise(NOTHING, x, i);
            for (int what = 0; what < 4; what++) {
                int w = what;
                expect.raises(NOTHING, "put without boxes", () -> x.put(true, i, w, 1));
                expect.raises(NOTHING, "put without boxes, not there", () -> x.put(false, i, w, 1));
            }
        }
    }

    private static void sizes() {
        long[][] due = {
            {0, 0}, {1, 1}, {19, 19}, {20, 0}, {21, 1}, {39, 19}, {-20, 0}, {-40, 0}, {Integer.MAX_VALUE, 7},
        };
        for (boolean discs : new boolean[] {false, true}) {
            for (long[] line : due) {
                FaultBench x = new FaultBench();
                int places = (int) line[1];
                expect.gives(places, "boxes with " + line[0], () -> x.boxes((int) line[0], discs));
                for (int i = 0; i < places; i++) {
                    allRaise(NOTHING, x, i);
                }
                allRaise(NO_PLACE, x, places);
                allRaise(NO_PLACE, x, -1);
            }
        }
    }

    private static void sizesBelow0() {
        for (boolean discs : new boolean[] {false, true}) {
            FaultBench x = new FaultBench();
            int[] below = {-1, -19, -21, Integer.MIN_VALUE};
            for (int n : below) {
                expect.raises(BELOW_0, "boxes with " + n, () -> x.boxes(n, discs));
                allRaise(NOTHING, x, 5);
            }
            x.boxes(2, !discs);
            x.put(true, 0, 2, 11);
            for (int n : below) {
                expect.raises(BELOW_0, "boxes with " + n, () -> x.boxes(n, discs));
                expect.gives(11, "value behind boxes that throws", () -> x.value(0));
                allRaise(NO_PLACE, x, 2);
            }
            if (discs) {
                expect.gives(2, "still a row of boxes", () -> x.put(true, 0, 1, 1));
            } else {
                expect.raises(NO_DISC, "still a row of discs", () -> x.put(true, 0, 1, 1));
            }
        }
    }

    private static void madeAnew() {
        FaultBench x = new FaultBench();
        expect.gives(19, "boxes", () -> x.boxes(19, false));
        for (int i = 0; i < 19; i++) {
            x.put(true, i, 1 + i % 2, i);
        }
        expect.gives(1, "fewer boxes", () -> x.boxes(1, false));
        allRaise(NOTHING, x, 0);
        allRaise(NO_PLACE, x, 1);
        expect.gives(19, "more boxes", () -> x.boxes(19, true));
        for (int i = 0; i < 19; i++) {
            allRaise(NOTHING, x, i);
        }
    }

    private static void whatByLowestTwoBits() {
        FaultBench x = new FaultBench();
        x.boxes(1, false);
        int[] nothing = {0, 4, -4, Integer.MIN_VALUE};
        int[] box = {1, 5, -3};
        int[] disc = {2, 3, 6, 7, -1, -2, Integer.MAX_VALUE};
        for (int what : box) {
            x.put(true, 0, what, 8);
            expect.gives(8, "value of a box by " + what, () -> x.value(0));
            expect.gives(25, "weight of a box by " + what, () -> x.weigh(0, 1));
            expect.raises(NO_ROLL, "roll of a box by " + what, () -> x.roll(0, 1));
        }
        for (int what : disc) {
            x.put(true, 0, what, 8);
            expect.gives(8, "value of a disc by " + what, () -> x.value(0));
            expect.gives(39, "weight of a disc by " + what, () -> x.weigh(0, 1));
            expect.gives(9, "roll of a disc by " + what, () -> x.roll(0, 1));
        }
        for (int what : nothing) {
            x.put(true, 0, 1, 8);
            x.put(true, 0, what, 8);
            allRaise(NOTHING, x, 0);
        }
    }

    private static void putInOrderOfExceptions() {
        FaultBench x = new FaultBench();
        x.boxes(2, true);
        expect.raises(NOTHING, "not there, no place, no disc", () -> x.put(false, 2, 1, 1));
        expect.raises(NOTHING, "not there, no disc", () -> x.put(false, 0, 1, 1));
        expect.raises(NOTHING, "not there", () -> x.put(false, 0, 2, 1));
        expect.raises(NOTHING, "not there, nothing", () -> x.put(false, 0, 0, 1));
        expect.raises(NO_PLACE, "no place, no disc", () -> x.put(true, 2, 1, 1));
        expect.raises(NO_PLACE, "no place below, no disc", () -> x.put(true, -1, 1, 1));
        expect.raises(NO_PLACE, "no place", () -> x.put(true, 2, 2, 1));
        expect.raises(NO_PLACE, "no place, nothing", () -> x.put(true, 2, 0, 1));
        expect.raises(NO_DISC, "no disc", () -> x.put(true, 1, 1, 1));
        allRaise(NOTHING, x, 0);
        allRaise(NOTHING, x, 1);
        expect.gives(1, "the first that came", () -> x.put(true, 1, 2, 1));
    }

    private static void countOfPut() {
        FaultBench x = new FaultBench();
        x.boxes(2, false);
        expect.gives(1, "a box", () -> x.put(true, 0, 1, 1));
        expect.gives(2, "a disc to the same place", () -> x.put(true, 0, 2, 1));
        expect.gives(3, "nothing", () -> x.put(true, 0, 0, 1));
        expect.gives(4, "nothing again", () -> x.put(true, 0, 0, 1));
        expect.raises(NO_PLACE, "no place", () -> x.put(true, 2, 1, 1));
        expect.raises(NOTHING, "not there", () -> x.put(false, 0, 1, 1));
        x.boxes(1, true);
        expect.raises(NO_DISC, "no disc", () -> x.put(true, 0, 1, 1));
        expect.gives(1, "a write has a count of its own", () -> x.write(0, true, 0, 1));
        expect.gives(5, "a disc behind boxes made anew", () -> x.put(true, 0, 3, 1));
    }

    private static void rowOfDiscs() {
        FaultBench x = new FaultBench();
        x.boxes(3, true);
        expect.gives(1, "disc by 2", () -> x.put(true, 0, 2, 4));
        expect.gives(2, "disc by 3", () -> x.put(true, 1, 3, 5));
        expect.gives(3, "nothing", () -> x.put(true, 2, 0, 6));
        expect.raises(NO_DISC, "box over a disc", () -> x.put(true, 0, 1, 7));
        expect.raises(NO_DISC, "box to nothing", () -> x.put(true, 2, 1, 7));
        expect.gives(4, "the disc is as it was", () -> x.value(0));
        expect.gives(18, "it weighs as a disc", () -> x.weigh(0, 2));
        expect.gives(6, "it rolls", () -> x.roll(0, 2));
        allRaise(NOTHING, x, 2);
        x.boxes(3, false);
        expect.gives(4, "box in a row of boxes again", () -> x.put(true, 0, 1, 7));
    }

    private static void noSuchPlace() {
        FaultBench x = new FaultBench();
        x.boxes(3, false);
        for (int i : new int[] {-1, 3, 18, 19, 20, Integer.MIN_VALUE, Integer.MAX_VALUE}) {
            allRaise(NO_PLACE, x, i);
            for (int what = 0; what < 4; what++) {
                int w = what;
                expect.raises(NO_PLACE, "put at " + i, () -> x.put(true, i, w, 1));
            }
        }
    }

    private static void nothingAtPlace() {
        FaultBench x = new FaultBench();
        x.boxes(3, false);
        x.put(true, 1, 1, 5);
        allRaise(NOTHING, x, 0);
        allRaise(NOTHING, x, 2);
        expect.gives(5, "value between", () -> x.value(1));
        x.put(true, 1, 0, 5);
        allRaise(NOTHING, x, 1);
    }

    private static void change() {
        for (int what = 1; what < 4; what++) {
            int w = what;
            FaultBench x = new FaultBench();
            x.boxes(2, false);
            x.put(true, 0, w, 5);
            x.put(true, 1, w, 6);
            expect.gives(5, "first change", () -> x.change(0, -9));
            expect.gives(-9, "second change", () -> x.change(0, Integer.MIN_VALUE));
            expect.gives(Integer.MIN_VALUE, "value", () -> x.value(0));
            expect.gives(6, "the other's value", () -> x.value(1));
            expect.gives(w == 1 ? -2147483647L : 2147483647L, "weight", () -> x.weigh(0, 1));
        }
    }

    /** Each row: value, x, what a BOX weighs, what a DISC weighs. */
    private static void weigh() {
        long[][] due = {
            {0, 0, 0, 0},
            {7, 2, 23, 33},
            {-7, 2, -19, -37},
            {7, -2, 19, 37},
            {0, Integer.MIN_VALUE, Integer.MIN_VALUE, Integer.MIN_VALUE},
            {1000000000, 0, -1294967296, 705032704},
            {Integer.MAX_VALUE, 1, 2147483646, 2147483642},
            {Integer.MIN_VALUE, -1, 2147483647, -2147483647},
            {Integer.MAX_VALUE, Integer.MAX_VALUE, -4, -4},
        };
        for (long[] line : due) {
            FaultBench x = new FaultBench();
            x.boxes(2, false);
            x.put(true, 0, 1, (int) line[0]);
            x.put(true, 1, 2, (int) line[0]);
            expect.gives(line[2], "box " + line[0] + " with " + line[1], () -> x.weigh(0, (int) line[1]));
            expect.gives(line[3], "disc " + line[0] + " with " + line[1], () -> x.weigh(1, (int) line[1]));
            expect.gives(line[0], "value behind weigh", () -> x.value(1));
        }
    }

    /** Each row: value, x, what a DISC rolls. */
    private static void roll() {
        long[][] due = {
            {0, 0, 0}, {7, 3, 4}, {5, 5, 0}, {-1, 1, -2}, {Integer.MIN_VALUE, Integer.MAX_VALUE, -1},
        };
        for (boolean discs : new boolean[] {false, true}) {
            for (long[] line : due) {
                FaultBench x = new FaultBench();
                x.boxes(1, discs);
                x.put(true, 0, 2, (int) line[0]);
                expect.gives(line[2], "roll " + line[0] + " with " + line[1], () -> x.roll(0, (int) line[1]));
                expect.gives(line[0], "value behind roll", () -> x.value(0));
            }
        }
        FaultBench x = new FaultBench();
        x.boxes(2, false);
        x.put(true, 0, 1, 5);
        expect.raises(NO_ROLL, "roll of a box", () -> x.roll(0, 1));
        expect.gives(5, "value behind roll that throws", () -> x.value(0));
        expect.raises(NOTHING, "roll of nothing", () -> x.roll(1, 1));
        expect.raises(NO_PLACE, "roll at no place", () -> x.roll(2, 1));
    }

    private static void objectsAreApart() {
        FaultBench x = new FaultBench();
        FaultBench y = new FaultBench();
        x.boxes(2, true);
        expect.raises(NOTHING, "value of y", () -> y.value(0));
        y.boxes(2, false);
        expect.gives(1, "put to y", () -> y.put(true, 0, 1, 3));
        expect.gives(1, "put to x", () -> x.put(true, 0, 2, 4));
        expect.gives(3, "value of y", () -> y.value(0));
        expect.gives(4, "value of x", () -> x.value(0));
    }
}
