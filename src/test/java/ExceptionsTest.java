/** The two sentences of the terms about exceptions, with a test of its own for each call that can throw. */
public final class ExceptionsTest {
    private static final Class<NullPointerException> NOTHING = NullPointerException.class;
    private static final Class<ArrayIndexOutOfBoundsException> NO_PLACE = ArrayIndexOutOfBoundsException.class;

    private static final int MIN = Integer.MIN_VALUE;
    private static final int MAX = Integer.MAX_VALUE;
    private static final int[] KINDS = {0, 1, 2, 3, 4, 5, 6, 7};

    private static final Expect expect = new Expect("ExceptionsTest");

    private interface BenchCall {
        long on(FaultBench x);
    }

    public static void main(String[] args) {
        first("read", ExceptionsTest::firstOfRead);
        first("write", ExceptionsTest::firstOfWrite);
        first("cell", ExceptionsTest::firstOfCell);
        first("put", ExceptionsTest::firstOfPut);
        first("value", () -> noBoxesComeFirst(x -> x.value(-1), x -> x.value(0), x -> x.value(MAX)));
        first("change", () -> noBoxesComeFirst(x -> x.change(-1, 1), x -> x.change(0, 1), x -> x.change(MAX, 1)));
        first("weigh", () -> noBoxesComeFirst(x -> x.weigh(-1, 1), x -> x.weigh(0, 1), x -> x.weigh(MAX, 1)));
        first("roll", () -> noBoxesComeFirst(x -> x.roll(-1, 1), x -> x.roll(0, 1), x -> x.roll(MAX, 1)));
        first("raise", ExceptionsTest::firstOfRaise);

        unchanged("read", ExceptionsTest::readChangesNothing);
        unchanged("write", ExceptionsTest::writeChangesNothing);
        unchanged("length", ExceptionsTest::lengthChangesNothing);
        unchanged("make", ExceptionsTest::makeChangesNothing);
        unchanged("grid", ExceptionsTest::gridChangesNothing);
        unchanged("cell", ExceptionsTest::cellChangesNothing);
        unchanged("boxes", ExceptionsTest::boxesChangesNothing);
        unchanged("put", ExceptionsTest::putChangesNothing);
        unchanged("value", ExceptionsTest::valueChangesNothing);
        unchanged("change", ExceptionsTest::changeChangesNothing);
        unchanged("weigh", ExceptionsTest::weighChangesNothing);
        unchanged("roll", ExceptionsTest::rollChangesNothing);
        unchanged("divide", ExceptionsTest::divideChangesNothing);
        unchanged("divideLong", ExceptionsTest::divideLongChangesNothing);
        unchanged("raise", ExceptionsTest::raiseChangesNothing);
        expect.end();
    }

    private static void first(String call, Runnable own) {
        expect.sentence("Terms, " + call,
            "Of several exceptions that would come, the one that is told first at the call comes.", own);
    }

    private static void unchanged(String call, Runnable own) {
        expect.sentence("Terms, " + call, "A call that throws changes nothing.", own);
    }

    private static void firstOfRead() {
        FaultBench x = new FaultBench();
        for (int k : KINDS) {
            for (int i : new int[] {-1, 3, MIN, MAX}) {
                expect.raises(NOTHING, "read of " + k + " at " + i, () -> x.read(k, false, i));
            }
        }
    }

    private static void firstOfWrite() {
        FaultBench x = new FaultBench();
        for (int k : KINDS) {
            for (int i : new int[] {-1, 3, MIN, MAX}) {
                expect.raises(NOTHING, "write to " + k + " at " + i, () -> x.write(k, false, i, 1));
            }
        }
    }

    private static void firstOfCell() {
        FaultBench x = new FaultBench();
        for (int i : new int[] {-1, 9, MIN, MAX}) {
            expect.raises(NOTHING, "no grid, row " + i, () -> x.cell(i, 0));
            expect.raises(NOTHING, "no grid, cell " + i, () -> x.cell(0, i));
        }
    }

    private static void firstOfPut() {
        FaultBench none = new FaultBench();
        expect.raises(NOTHING, "no boxes, no place", () -> none.put(true, -1, 1, 1));
        expect.raises(NOTHING, "no boxes, no place, not there", () -> none.put(false, -1, 1, 1));
        FaultBench discs = new FaultBench();
        discs.boxes(2, true);
        expect.raises(NOTHING, "not there, no place below", () -> discs.put(false, -1, 2, 1));
        expect.raises(NOTHING, "not there, no place behind", () -> discs.put(false, 2, 2, 1));
        expect.raises(NOTHING, "not there, no disc", () -> discs.put(false, 0, 1, 1));
        expect.raises(NOTHING, "not there, no place, no disc", () -> discs.put(false, 2, 1, 1));
        expect.raises(NO_PLACE, "no place below, no disc", () -> discs.put(true, -1, 1, 1));
        expect.raises(NO_PLACE, "no place behind, no disc", () -> discs.put(true, 2, 1, 1));
    }

    private static void noBoxesComeFirst(BenchCall... calls) {
        FaultBench x = new FaultBench();
        for (BenchCall call : calls) {
            expect.raises(NOTHING, "no boxes, no place", () -> call.on(x));
        }
    }

    private static void firstOfRaise() {
        FaultBench x = new FaultBench();
        expect.raises(NOTHING, "not there", () -> x.raise(false));
    }

    private static void readChangesNothing() {
        for (int k : KINDS) {
            changeNothing(x -> x.read(k, false, 0), x -> x.read(k, true, -1), x -> x.read(k, true, 4));
        }
    }

    private static void writeChangesNothing() {
        for (int k : KINDS) {
            changeNothing(x -> x.write(k, false, 0, 0), x -> x.write(k, true, -1, 8), x -> x.write(k, true, 4, 8));
        }
    }

    private static void lengthChangesNothing() {
        for (int k : KINDS) {
            changeNothing(x -> x.length(k, false));
        }
    }

    private static void makeChangesNothing() {
        for (int k : KINDS) {
            changeNothing(x -> x.make(k, -1), x -> x.make(k, -39), x -> x.make(k, MIN));
        }
    }

    private static void gridChangesNothing() {
        changeNothing(x -> x.grid(-1, 1), x -> x.grid(1, -1), x -> x.grid(-8, -8), x -> x.grid(0, -1), x -> x.grid(-1, 0));
    }

    private static void cellChangesNothing() {
        changeNothing(x -> x.cell(-1, 0), x -> x.cell(2, 0), x -> x.cell(0, -1), x -> x.cell(0, 3));
        changeNothingOfNew(x -> x.cell(0, 0));
    }

    private static void boxesChangesNothing() {
        changeNothing(x -> x.boxes(-1, false), x -> x.boxes(-1, true), x -> x.boxes(-19, false), x -> x.boxes(-19, true));
    }

    private static void putChangesNothing() {
        for (int what : new int[] {0, 1, 2, 3}) {
            changeNothing(x -> x.put(false, 0, what, 8), x -> x.put(true, -1, what, 8), x -> x.put(true, 3, what, 8));
            changeNothingOfNew(x -> x.put(true, 0, what, 8));
        }
        sameBehind(furnished(true), furnished(true), x -> x.put(true, 0, 1, 8));
        sameBehind(furnished(true), furnished(true), x -> x.put(true, 2, 1, 8));
    }

    private static void valueChangesNothing() {
        changeNothing(x -> x.value(-1), x -> x.value(2), x -> x.value(3));
        changeNothingOfNew(x -> x.value(0));
    }

    private static void changeChangesNothing() {
        changeNothing(x -> x.change(-1, 8), x -> x.change(2, 8), x -> x.change(3, 8));
        changeNothingOfNew(x -> x.change(0, 8));
    }

    private static void weighChangesNothing() {
        changeNothing(x -> x.weigh(-1, 8), x -> x.weigh(2, 8), x -> x.weigh(3, 8));
        changeNothingOfNew(x -> x.weigh(0, 8));
    }

    private static void rollChangesNothing() {
        changeNothing(x -> x.roll(-1, 8), x -> x.roll(2, 8), x -> x.roll(3, 8));
        changeNothingOfNew(x -> x.roll(0, 8));
        sameBehind(furnished(false), furnished(false), x -> x.roll(0, 8));
    }

    private static void divideChangesNothing() {
        changeNothing(x -> x.divide(8, 0, false), x -> x.divide(8, 0, true));
    }

    private static void divideLongChangesNothing() {
        changeNothing(x -> x.divideLong(8, 0, false), x -> x.divideLong(8, 0, true));
    }

    private static void raiseChangesNothing() {
        changeNothing(x -> x.raise(false), x -> x.raise(true));
    }

    /** Each call throws, whether the boxes are discs alone or not. */
    private static void changeNothing(BenchCall... calls) {
        for (BenchCall call : calls) {
            sameBehind(furnished(false), furnished(false), call);
            sameBehind(furnished(true), furnished(true), call);
        }
    }

    private static void changeNothingOfNew(BenchCall call) {
        sameBehind(new FaultBench(), new FaultBench(), call);
    }

    /** The call throws on one of two like benches, and they are alike behind it. */
    private static void sameBehind(FaultBench twin, FaultBench called, BenchCall call) {
        String outcome = Expect.outcome(() -> call.on(called));
        expect.same("true", "a call that should throw: " + outcome, "" + outcome.startsWith("throws."));
        expect.same(state(twin), "the state behind " + outcome, state(called));
    }

    /** Something is everywhere: rows of four cells, a grid of 2 * 3, a first place, a disc and nothing. */
    private static FaultBench furnished(boolean discs) {
        FaultBench x = new FaultBench();
        for (int k : KINDS) {
            x.make(k, 4);
            x.write(k, true, 0, 5);
            x.write(k, true, 3, 6);
        }
        x.grid(2, 3);
        x.boxes(3, discs);
        x.put(true, 0, discs ? 2 : 1, 5);
        x.put(true, 1, 2, 6);
        return x;
    }

    /**
     * All that can be asked of a bench. Place 19 is in no boxes, so a put there tells whether there are any; the counts
     * and what the boxes take are asked last, by calls that change.
     */
    private static String state(FaultBench x) {
        StringBuilder text = new StringBuilder();
        for (int k : KINDS) {
            text.append("\nrow ").append(k).append(" of ").append(x.length(k, true)).append(':');
            for (int i = 0; i < x.length(k, true); i++) {
                text.append(' ').append(x.read(k, true, i));
            }
        }
        text.append("\ngrid:");
        for (int row = 0; row < 9; row++) {
            for (int column = 0; column < 9; column++) {
                int i = row;
                int j = column;
                text.append(' ').append(Expect.outcome(() -> x.cell(i, j)));
            }
        }
        text.append("\nboxes: ").append(Expect.outcome(() -> x.put(true, 19, 2, 1)));
        for (int place = 0; place < 20; place++) {
            int i = place;
            text.append(' ').append(Expect.outcome(() -> x.value(i)));
            text.append(' ').append(Expect.outcome(() -> x.roll(i, 0)));
        }
        text.append("\nnext write: ").append(Expect.outcome(() -> x.write(0, true, 0, 1)));
        text.append("\nnext put of a box: ").append(Expect.outcome(() -> x.put(true, 0, 1, 1)));
        text.append("\nnext put of a disc: ").append(Expect.outcome(() -> x.put(true, 0, 2, 1)));
        text.append("\nboxes made anew: ").append(x.boxes(1, false));
        text.append("\nnext put there: ").append(Expect.outcome(() -> x.put(true, 0, 1, 1)));
        return text.toString();
    }
}
