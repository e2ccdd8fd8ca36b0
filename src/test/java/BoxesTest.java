/** Promises 8 to 13: boxes, put, value, change, weigh, roll. */
public final class BoxesTest {
    private static final Class<NullPointerException> NOTHING = NullPointerException.class;
    private static final Class<ArrayIndexOutOfBoundsException> NO_PLACE = ArrayIndexOutOfBoundsException.class;
    private static final Class<NegativeArraySizeException> BELOW_0 = NegativeArraySizeException.class;
    private static final Class<ArrayStoreException> NO_DISC = ArrayStoreException.class;
    private static final Class<ClassCastException> NO_ROLL = ClassCastException.class;

    private static final int MIN = Integer.MIN_VALUE;
    private static final int MAX = Integer.MAX_VALUE;
    private static final boolean[] DISCS_OR_NOT = {false, true};
    private static final int[] SIZES = {0, 1, 2, 18, 19};

    private static final Expect expect = new Expect("BoxesTest");

    /** A call that goes to a place of the boxes. */
    private interface PlaceCall {
        long on(FaultBench x, int i);
    }

    private static final PlaceCall PUT = (x, i) -> x.put(true, i, 2, 8);
    private static final PlaceCall VALUE = FaultBench::value;
    private static final PlaceCall CHANGE = (x, i) -> x.change(i, 8);
    private static final PlaceCall WEIGH = (x, i) -> x.weigh(i, 8);
    private static final PlaceCall ROLL = (x, i) -> x.roll(i, 8);

    public static void main(String[] args) {
        boxes();
        put();
        value();
        change();
        weigh();
        roll();
        objectsAreApart();
        expect.end();
    }

    private static void boxes() {
        expect.sentence("Promise 8", "THE BOXES are made anew", BoxesTest::madeAnew);
        expect.sentence("Promise 8", "n % 20 places", BoxesTest::placesByWhatIsLeft);
        expect.sentence("Promise 8", "with nothing", BoxesTest::placesWithNothing);
        expect.sentence("Promise 8", "of DISCS alone or not", BoxesTest::discsAloneOrNot);
        expect.sentence("Promise 8", "how many", BoxesTest::tellsHowMany);
        expect.sentence("Promise 8", "NegativeArraySizeException: these are below 0.", BoxesTest::below0);
    }

    private static void put() {
        expect.sentence("Promise 9", "To place i of THE BOXES comes", BoxesTest::putToEveryPlace);
        expect.sentence("Promise 9", "by the lowest two bits of what 0 nothing", BoxesTest::putOfNothing);
        expect.sentence("Promise 9", "1 a BOX", BoxesTest::putOfBox);
        expect.sentence("Promise 9", "2 and 3 a DISC", BoxesTest::putOfDisc);
        expect.sentence("Promise 9", "with value v", BoxesTest::putWithValue);
        expect.sentence("Promise 9", "how many came so far (nothing, too)", BoxesTest::countOfPut);
        expect.sentence("Promise 9", "NullPointerException: there are no BOXES", () -> raiseWithoutBoxes(PUT));
        expect.sentence("Promise 9", "or there is false.", BoxesTest::putNotThere);
        expect.sentence("Promise 9, i is too small", "ArrayIndexOutOfBoundsException: no such place.", () -> raiseBelow(PUT));
        expect.sentence("Promise 9, i is too large", "ArrayIndexOutOfBoundsException: no such place.", () -> raiseBehind(PUT));
        expect.sentence("Promise 9, any what", "ArrayIndexOutOfBoundsException: no such place.", BoxesTest::noPlaceForAny);
        expect.sentence("Promise 9", "ArrayStoreException: a BOX that is no DISC into a row of DISCS.", BoxesTest::noDisc);
    }

    private static void value() {
        expect.sentence("Promise 10", "The value of what is at place i of THE BOXES.", BoxesTest::valueOfEveryPlace);
        expect.sentence("Promise 10", "NullPointerException: there are no BOXES", () -> raiseWithoutBoxes(VALUE));
        expect.sentence("Promise 10", "nothing is there.", () -> raiseAtNothing(VALUE));
        expect.sentence("Promise 10, i is too small", "ArrayIndexOutOfBoundsException: no such place", () -> raiseBelow(VALUE));
        expect.sentence("Promise 10, i is too large", "ArrayIndexOutOfBoundsException: no such place", () -> raiseBehind(VALUE));
        expect.sentence("Promise 10", "(looked at behind: no BOXES)", () -> raiseNothingAtNoPlace(VALUE));
    }

    private static void change() {
        expect.sentence("Promise 11", "It has value v then", BoxesTest::valueBehindChange);
        expect.sentence("Promise 11", "what it had.", BoxesTest::changeTellsWhatItHad);
        asValue("Promise 11", CHANGE);
    }

    private static void weigh() {
        expect.sentence("Promise 12", "What it weighs with x.", BoxesTest::weights);
        asValue("Promise 12", WEIGH);
    }

    private static void roll() {
        expect.sentence("Promise 13", "What it rolls with x.", BoxesTest::rolls);
        asValue("Promise 13", ROLL);
        expect.sentence("Promise 13", "ClassCastException: it does not roll.", BoxesTest::boxDoesNotRoll);
    }

    private static void asValue(String promise, PlaceCall call) {
        expect.sentence(promise + ", there are no BOXES", "As value", () -> raiseWithoutBoxes(call));
        expect.sentence(promise + ", nothing is there", "As value", () -> raiseAtNothing(call));
        expect.sentence(promise + ", i is too small", "As value", () -> raiseBelow(call));
        expect.sentence(promise + ", i is too large", "As value", () -> raiseBehind(call));
        expect.sentence(promise + ", looked at behind: no BOXES", "As value", () -> raiseNothingAtNoPlace(call));
    }

    private static FaultBench withBoxes(int n, boolean discs) {
        FaultBench x = new FaultBench();
        x.boxes(n, discs);
        return x;
    }

    /** Discs at all places, with values from 100 on. */
    private static FaultBench full(int places, boolean discs) {
        FaultBench x = withBoxes(places, discs);
        for (int i = 0; i < places; i++) {
            x.put(true, i, 2, 100 + i);
        }
        return x;
    }

    private static void raiseWithoutBoxes(PlaceCall call) {
        FaultBench x = new FaultBench();
        expect.raises(NOTHING, "at 0 of no boxes", () -> call.on(x, 0));
        expect.raises(BELOW_0, "boxes below 0", () -> x.boxes(-1, true));
        expect.raises(NOTHING, "at 0 behind boxes that throws", () -> call.on(x, 0));
        expect.gives(0, "boxes without a place", () -> x.boxes(0, true));
        expect.raises(NO_PLACE, "at 0 of boxes without a place", () -> call.on(x, 0));
    }

    private static void raiseAtNothing(PlaceCall call) {
        for (boolean discs : DISCS_OR_NOT) {
            FaultBench x = withBoxes(19, discs);
            x.put(true, 1, 2, 5);
            x.put(true, 17, 2, 5);
            x.put(true, 17, 0, 5);
            for (int i : new int[] {0, 2, 17, 18}) {
                expect.raises(NOTHING, "at " + i, () -> call.on(x, i));
            }
        }
    }

    private static void raiseBelow(PlaceCall call) {
        for (boolean discs : DISCS_OR_NOT) {
            for (int places : SIZES) {
                FaultBench x = full(places, discs);
                for (int i : new int[] {-1, -2, -places - 1, -20, -65536, MIN}) {
                    expect.raises(NO_PLACE, "at " + i + " of " + places, () -> call.on(x, i));
                }
            }
        }
    }

    private static void raiseBehind(PlaceCall call) {
        for (boolean discs : DISCS_OR_NOT) {
            for (int places : SIZES) {
                FaultBench x = full(places, discs);
                for (int i : new int[] {places, places + 1, 19, 20, 65536, MAX}) {
                    expect.raises(NO_PLACE, "at " + i + " of " + places, () -> call.on(x, i));
                }
            }
        }
    }

    private static void raiseNothingAtNoPlace(PlaceCall call) {
        FaultBench x = new FaultBench();
        for (int i : new int[] {-1, 19, 20, MIN, MAX}) {
            expect.raises(NOTHING, "at " + i + " of no boxes", () -> call.on(x, i));
        }
    }

    private static void madeAnew() {
        FaultBench x = full(19, false);
        expect.gives(1, "fewer boxes", () -> x.boxes(1, false));
        expect.raises(NO_PLACE, "value behind the last place", () -> x.value(1));
        expect.gives(0, "boxes without a place", () -> x.boxes(0, false));
        expect.raises(NO_PLACE, "value of no place", () -> x.value(0));
        expect.gives(19, "more boxes", () -> x.boxes(19, false));
        expect.raises(NOTHING, "value of the last place", () -> x.value(18));
        expect.gives(20, "put to the last place", () -> x.put(true, 18, 1, 1));
    }

    /** Each row: n, and what is left of it. */
    private static void placesByWhatIsLeft() {
        int[][] due = {
            {0, 0}, {1, 1}, {18, 18}, {19, 19}, {20, 0}, {21, 1}, {39, 19}, {40, 0}, {2147483640, 0}, {MAX, 7},
            {-20, 0}, {-40, 0}, {-2147483640, 0},
        };
        for (boolean discs : DISCS_OR_NOT) {
            for (int[] line : due) {
                FaultBench x = new FaultBench();
                expect.gives(line[1], "boxes with " + line[0], () -> x.boxes(line[0], discs));
                if (line[1] > 0) {
                    expect.gives(1, "put to the last place of " + line[0], () -> x.put(true, line[1] - 1, 2, 1));
                }
                expect.raises(NO_PLACE, "put behind the last place of " + line[0], () -> x.put(true, line[1], 2, 1));
            }
        }
    }

    private static void placesWithNothing() {
        for (boolean discs : DISCS_OR_NOT) {
            for (int places : SIZES) {
                FaultBench x = full(19, !discs);
                expect.gives(places, "boxes", () -> x.boxes(places, discs));
                for (int place = 0; place < places; place++) {
                    int i = place;
                    expect.raises(NOTHING, "value at " + i + " of " + places, () -> x.value(i));
                }
            }
        }
    }

    private static void discsAloneOrNot() {
        FaultBench x = withBoxes(1, true);
        expect.raises(NO_DISC, "box into a row of discs", () -> x.put(true, 0, 1, 1));
        x.boxes(1, false);
        expect.gives(1, "box into a row of boxes", () -> x.put(true, 0, 1, 1));
        x.boxes(1, true);
        expect.raises(NO_DISC, "box into a row of discs again", () -> x.put(true, 0, 1, 1));
        expect.gives(2, "disc into a row of discs", () -> x.put(true, 0, 2, 1));
    }

    private static void tellsHowMany() {
        for (boolean discs : DISCS_OR_NOT) {
            FaultBench x = new FaultBench();
            for (int n = 0; n < 20; n++) {
                int places = n;
                expect.gives(places, "boxes with " + places, () -> x.boxes(places, discs));
            }
        }
    }

    private static void below0() {
        for (boolean discs : DISCS_OR_NOT) {
            FaultBench x = new FaultBench();
            for (int n : new int[] {-1, -2, -18, -19, -21, -39, -41, -2147483647, MIN}) {
                expect.raises(BELOW_0, "boxes with " + n, () -> x.boxes(n, discs));
            }
        }
    }

    private static void putToEveryPlace() {
        for (int place = 0; place < 19; place++) {
            FaultBench x = withBoxes(19, false);
            int at = place;
            x.put(true, at, 1, 5);
            for (int other = 0; other < 19; other++) {
                int i = other;
                if (i == at) {
                    expect.gives(5, "value at " + i, () -> x.value(i));
                } else {
                    expect.raises(NOTHING, "value at " + i + " behind " + at, () -> x.value(i));
                }
            }
        }
    }

    private static void putOfNothing() {
        for (boolean discs : DISCS_OR_NOT) {
            for (int what : new int[] {0, 4, 8, -4, MIN}) {
                FaultBench x = full(1, discs);
                expect.gives(2, "put by " + what, () -> x.put(true, 0, what, 8));
                expect.raises(NOTHING, "value behind " + what, () -> x.value(0));
            }
        }
    }

    private static void putOfBox() {
        for (int what : new int[] {1, 5, 9, -3, MIN + 1}) {
            FaultBench x = full(1, false);
            expect.gives(2, "put by " + what, () -> x.put(true, 0, what, 8));
            expect.gives(25, "weight of a box by " + what, () -> x.weigh(0, 1));
            expect.raises(NO_ROLL, "roll of a box by " + what, () -> x.roll(0, 1));
        }
    }

    private static void putOfDisc() {
        for (boolean discs : DISCS_OR_NOT) {
            for (int what : new int[] {2, 3, 6, 7, -1, -2, MIN + 2, MAX}) {
                FaultBench x = withBoxes(1, discs);
                expect.gives(1, "put by " + what, () -> x.put(true, 0, what, 8));
                expect.gives(39, "weight of a disc by " + what, () -> x.weigh(0, 1));
                expect.gives(9, "roll of a disc by " + what, () -> x.roll(0, 1));
            }
        }
    }

    private static void putWithValue() {
        for (int what : new int[] {1, 2, 3}) {
            FaultBench x = withBoxes(1, false);
            for (int v : new int[] {0, 1, -1, MIN, MAX}) {
                x.put(true, 0, what, v);
                expect.gives(v, "value by " + what, () -> x.value(0));
            }
        }
    }

    private static void countOfPut() {
        FaultBench x = withBoxes(2, false);
        expect.gives(1, "a box", () -> x.put(true, 0, 1, 1));
        expect.gives(2, "a disc to the same place", () -> x.put(true, 0, 2, 1));
        expect.gives(3, "nothing", () -> x.put(true, 0, 0, 1));
        expect.gives(4, "nothing again", () -> x.put(true, 0, 0, 1));
        expect.raises(NO_PLACE, "no place", () -> x.put(true, 2, 1, 1));
        expect.raises(NOTHING, "not there", () -> x.put(false, 0, 1, 1));
        x.boxes(1, true);
        expect.raises(NO_DISC, "no disc", () -> x.put(true, 0, 1, 1));
        expect.gives(1, "a write has a count of its own", () -> x.write(0, true, 0, 1));
        expect.gives(5, "a disc behind boxes made anew", () -> x.put(true, 0, 3, 1));
        expect.gives(1, "a change does not count", () -> x.change(0, 2));
        expect.gives(6, "a disc behind a change", () -> x.put(true, 0, 3, 1));
    }

    private static void putNotThere() {
        for (boolean discs : DISCS_OR_NOT) {
            FaultBench x = full(2, discs);
            for (int what : new int[] {0, 1, 2, 3}) {
                expect.raises(NOTHING, "put by " + what, () -> x.put(false, 0, what, 8));
            }
        }
    }

    private static void noPlaceForAny() {
        for (boolean discs : DISCS_OR_NOT) {
            FaultBench x = full(2, discs);
            for (int what : new int[] {0, 1, 2, 3}) {
                expect.raises(NO_PLACE, "put by " + what + " below", () -> x.put(true, -1, what, 8));
                expect.raises(NO_PLACE, "put by " + what + " behind", () -> x.put(true, 2, what, 8));
            }
        }
    }

    private static void noDisc() {
        FaultBench x = withBoxes(3, true);
        x.put(true, 0, 2, 4);
        for (int what : new int[] {1, 5, -3}) {
            expect.raises(NO_DISC, "box over a disc", () -> x.put(true, 0, what, 7));
            expect.raises(NO_DISC, "box to nothing", () -> x.put(true, 2, what, 7));
        }
        expect.gives(2, "disc over a disc", () -> x.put(true, 0, 3, 6));
        expect.gives(3, "nothing over a disc", () -> x.put(true, 0, 0, 6));
        expect.raises(NO_DISC, "box where a disc was", () -> x.put(true, 0, 1, 7));
    }

    private static void valueOfEveryPlace() {
        for (boolean discs : DISCS_OR_NOT) {
            FaultBench x = full(19, discs);
            for (int place = 0; place < 19; place++) {
                int i = place;
                expect.gives(100 + i, "value at " + i, () -> x.value(i));
                expect.gives(100 + i, "value again at " + i, () -> x.value(i));
            }
        }
    }

    private static void valueBehindChange() {
        for (int what : new int[] {1, 2, 3}) {
            FaultBench x = withBoxes(2, false);
            x.put(true, 0, what, 5);
            x.put(true, 1, what, 6);
            for (int v : new int[] {-9, 0, MAX, MIN}) {
                x.change(0, v);
                expect.gives(v, "value behind change to " + v, () -> x.value(0));
                expect.gives(6, "the other's value", () -> x.value(1));
            }
            expect.gives(what == 1 ? -MAX : MAX, "weight behind change", () -> x.weigh(0, 1));
        }
    }

    private static void changeTellsWhatItHad() {
        for (int what : new int[] {1, 2, 3}) {
            FaultBench x = withBoxes(1, false);
            x.put(true, 0, what, 5);
            expect.gives(5, "first change", () -> x.change(0, MIN));
            expect.gives(MIN, "second change", () -> x.change(0, MAX));
            expect.gives(MAX, "third change", () -> x.change(0, MAX));
            expect.gives(MAX, "fourth change", () -> x.change(0, 0));
        }
    }

    /** Each row: value, x, what a BOX weighs, what a DISC weighs. */
    private static void weights() {
        long[][] due = {
            {0, 0, 0, 0},
            {7, 2, 23, 33},
            {-7, 2, -19, -37},
            {7, -2, 19, 37},
            {0, MIN, MIN, MIN},
            {1000000000, 0, -1294967296, 705032704},
            {MAX, 1, 2147483646, 2147483642},
            {MIN, -1, 2147483647, -2147483647},
            {MAX, MAX, -4, -4},
        };
        for (long[] line : due) {
            FaultBench x = withBoxes(2, false);
            x.put(true, 0, 1, (int) line[0]);
            x.put(true, 1, 2, (int) line[0]);
            expect.gives(line[2], "box " + line[0] + " with " + line[1], () -> x.weigh(0, (int) line[1]));
            expect.gives(line[3], "disc " + line[0] + " with " + line[1], () -> x.weigh(1, (int) line[1]));
            expect.gives(line[0], "value of a box behind weigh", () -> x.value(0));
            expect.gives(line[0], "value of a disc behind weigh", () -> x.value(1));
        }
    }

    /** Each row: value, x, what a DISC rolls. */
    private static void rolls() {
        int[][] due = {
            {0, 0, 0}, {7, 3, 4}, {5, 5, 0}, {-1, 1, -2}, {MIN, MAX, -1}, {MIN, MIN, 0}, {MAX, -1, MIN},
        };
        for (boolean discs : DISCS_OR_NOT) {
            for (int[] line : due) {
                FaultBench x = withBoxes(1, discs);
                x.put(true, 0, 2, line[0]);
                expect.gives(line[2], "roll " + line[0] + " with " + line[1], () -> x.roll(0, line[1]));
                expect.gives(line[0], "value behind roll", () -> x.value(0));
            }
        }
    }

    private static void boxDoesNotRoll() {
        FaultBench x = withBoxes(2, false);
        x.put(true, 0, 1, 5);
        x.put(true, 1, 2, 5);
        expect.raises(NO_ROLL, "roll of a box", () -> x.roll(0, 1));
        expect.gives(4, "roll of a disc beside it", () -> x.roll(1, 1));
        x.put(true, 1, 1, 5);
        expect.raises(NO_ROLL, "roll of a box where a disc was", () -> x.roll(1, 1));
        x.put(true, 0, 2, 5);
        expect.gives(4, "roll of a disc where a box was", () -> x.roll(0, 1));
    }

    private static void objectsAreApart() {
        FaultBench x = new FaultBench();
        FaultBench y = new FaultBench();
        x.boxes(2, true);
        expect.raises(NOTHING, "value of y", () -> y.value(0));
        y.boxes(2, false);
        expect.gives(1, "put to y", () -> y.put(true, 0, 1, 3));
        expect.gives(1, "put to x", () -> x.put(true, 0, 2, 4));
        expect.gives(3, "value of y", () -> y.value(0));
        expect.gives(4, "value of x", () -> x.value(0));
    }
}
