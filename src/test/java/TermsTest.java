/** What stands for every promise: the number of calls, and the terms; the exceptions have ExceptionsTest. */
public final class TermsTest {
    private static final Class<NullPointerException> NOTHING = NullPointerException.class;
    private static final Class<ArrayIndexOutOfBoundsException> NO_PLACE = ArrayIndexOutOfBoundsException.class;

    private static final int MIN = Integer.MIN_VALUE;
    private static final int MAX = Integer.MAX_VALUE;
    private static final int LAST_CALL = 512;
    private static final int[] KINDS = {0, 1, 2, 3, 4, 5, 6, 7};

    private static final Expect expect = new Expect("TermsTest");

    public static void main(String[] args) {
        expect.sentence("What it is", "An object is used for at most 512 calls after it has been made", TermsTest::lastCall);
        rows();
        values();
        boxes();
        expect.end();
    }

    private static void rows() {
        expect.sentence("Terms", "(a kind's number is taken by its lowest three bits)", TermsTest::kindNumberWraps);
        expect.sentence("Terms", "one of each kind", TermsTest::oneOfEachKind);
        expect.sentence("Terms", "with three cells at first, all 0 (false)", TermsTest::threeCells);
    }

    private static void values() {
        expect.sentence("Terms", "0 ints", TermsTest::ints);
        expect.sentence("Terms", "A value v that is written into a cell becomes: a long", TermsTest::longs);
        expect.sentence("Terms, shorts", "the lowest 16, 8, 16 bits", TermsTest::shorts);
        expect.sentence("Terms, bytes", "the lowest 16, 8, 16 bits", TermsTest::bytes);
        expect.sentence("Terms, chars", "the lowest 16, 8, 16 bits", TermsTest::chars);
        expect.sentence("Terms", "(of chars without a sign)", TermsTest::charsHaveNoSign);
        expect.sentence("Terms", "whether it is not 0", TermsTest::booleans);
        expect.sentence("Terms", "the nearest float", TermsTest::nearestFloat);
        expect.sentence("Terms", "(of two the even one)", TermsTest::evenFloat);
        expect.sentence("Terms", "double", TermsTest::doubles);
        expect.sentence("Terms", "of booleans 0 or 1", TermsTest::booleansAreRead);
        expect.sentence("Terms", "of floats and doubles, which are whole and below 2^32 in size, just that",
            TermsTest::floatsAndDoublesAreRead);
    }

    private static void boxes() {
        expect.sentence("Terms", "a BOX has a value and weighs value * 3 + x", TermsTest::box);
        expect.sentence("Terms", "a DISC is a BOX that weighs value * 5 - x and rolls: value ^ x", TermsTest::disc);
        expect.sentence("Terms, a BOX", "(ints, without overflow being told)", TermsTest::boxOverflows);
        expect.sentence("Terms, a DISC", "(ints, without overflow being told)", TermsTest::discOverflows);
        expect.sentence("Terms", "or one of DISCS alone (which is a row of BOXES, too)", TermsTest::rowOfDiscsIsOfBoxes);
        expect.sentence("Terms", "nothing at first", TermsTest::noBoxesAtFirst);
    }

    private static void lastCall() {
        FaultBench writes = new FaultBench();
        for (int call = 1; call < LAST_CALL; call++) {
            writes.write(call, true, 0, call);
        }
        expect.gives(LAST_CALL, "the last of 512 writes", () -> writes.write(0, true, 0, 1));

        FaultBench puts = new FaultBench();
        puts.boxes(19, false);
        for (int call = 2; call < LAST_CALL; call++) {
            puts.put(true, call % 19, 1 + call % 3, call);
        }
        expect.gives(LAST_CALL - 1, "the last of 511 puts", () -> puts.put(true, 18, 0, 1));

        FaultBench makes = new FaultBench();
        for (int call = 1; call < LAST_CALL; call++) {
            makes.make(call, 39);
        }
        expect.gives(39, "the last of 512 makes", () -> makes.make(7, 39));

        FaultBench throwing = new FaultBench();
        for (int call = 1; call < LAST_CALL; call++) {
            Expect.outcome(() -> throwing.read(0, true, 3));
        }
        expect.raises(NO_PLACE, "the last of 512 calls that throw", () -> throwing.read(0, true, 3));
    }

    private static void kindNumberWraps() {
        for (int k : KINDS) {
            for (int number : new int[] {k, k + 8, k - 8, k + 16, k - 16, MIN + k, MAX - 7 + k}) {
                FaultBench x = new FaultBench();
                expect.gives(4 + k, "make of " + number, () -> x.make(number, 4 + k));
                expect.gives(4 + k, "length of " + k, () -> x.length(k, true));
                expect.gives(4 + k, "length of " + number, () -> x.length(number, true));
                expect.gives(1, "write to " + number, () -> x.write(number, true, 3 + k, 1));
                expect.gives(1, "read of " + k, () -> x.read(k, true, 3 + k));
                expect.gives(1, "read of " + number, () -> x.read(number, true, 3 + k));
            }
        }
    }

    private static void oneOfEachKind() {
        FaultBench x = new FaultBench();
        for (int k : KINDS) {
            expect.gives(10 + k, "make " + k, () -> x.make(k, 10 + k));
            expect.gives(k + 1, "write " + k, () -> x.write(k, true, 9 + k, k == 5 ? 1 : 20 + k));
        }
        for (int k : KINDS) {
            expect.gives(10 + k, "length " + k, () -> x.length(k, true));
            expect.gives(k == 5 ? 1 : 20 + k, "last cell of " + k, () -> x.read(k, true, 9 + k));
            expect.raises(NO_PLACE, "behind the last cell of " + k, () -> x.read(k, true, 10 + k));
        }
    }

    private static void threeCells() {
        FaultBench x = new FaultBench();
        for (int k : KINDS) {
            expect.gives(3, "length " + k, () -> x.length(k, true));
            for (int i : new int[] {0, 1, 2}) {
                expect.gives(0, "read " + k + " at " + i, () -> x.read(k, true, i));
            }
            expect.raises(NO_PLACE, "read of a fourth cell of " + k, () -> x.read(k, true, 3));
        }
    }

    /** Each row: a value that is written, and what it becomes. */
    private static void become(int kind, long[][] due) {
        for (long[] line : due) {
            int v = (int) line[0];
            FaultBench x = new FaultBench();
            expect.gives(1, "write of " + v, () -> x.write(kind, true, 1, v));
            expect.gives(line[1], "read of " + v, () -> x.read(kind, true, 1));
        }
    }

    private static void ints() {
        become(0, new long[][] {{0, 0}, {1, 1}, {-1, -1}, {-70000, -70000}, {16777217, 16777217}, {MAX, MAX}, {MIN, MIN}});
    }

    private static void longs() {
        become(1, new long[][] {{0, 0}, {1, 1}, {-1, -1}, {-70000, -70000}, {16777217, 16777217}, {MAX, MAX}, {MIN, MIN}});
    }

    private static void shorts() {
        become(2, new long[][] {
            {0, 0}, {-1, -1}, {32767, 32767}, {32768, -32768}, {-32768, -32768}, {-32769, 32767}, {65535, -1},
            {65536, 0}, {65537, 1}, {-65536, 0}, {-70000, -4464}, {MAX, -1}, {MIN, 0},
        });
    }

    private static void bytes() {
        become(3, new long[][] {
            {0, 0}, {-1, -1}, {127, 127}, {128, -128}, {-128, -128}, {-129, 127}, {255, -1},
            {256, 0}, {257, 1}, {-256, 0}, {-70000, -112}, {MAX, -1}, {MIN, 0},
        });
    }

    private static void chars() {
        become(4, new long[][] {
            {0, 0}, {255, 255}, {256, 256}, {65535, 65535}, {65536, 0}, {65537, 1}, {-65536, 0}, {-65535, 1}, {MIN, 0},
        });
    }

    private static void charsHaveNoSign() {
        become(4, new long[][] {
            {32767, 32767}, {32768, 32768}, {-32768, 32768}, {-1, 65535}, {-70000, 61072}, {MAX, 65535},
        });
    }

    /** Of the last ones the lowest 8, 16, 31 bits are 0. */
    private static void booleans() {
        become(5, new long[][] {{0, 0}, {1, 1}, {-1, 1}, {2, 1}, {MAX, 1}, {256, 1}, {65536, 1}, {MIN, 1}});
    }

    private static void nearestFloat() {
        become(6, new long[][] {
            {0, 0}, {1, 1}, {-1, -1}, {16777215, 16777215}, {16777216, 16777216}, {16777218, 16777218},
            {33554433, 33554432}, {33554435, 33554436}, {-33554433, -33554432}, {-33554435, -33554436},
            {2147483583, 2147483520}, {2147483585, 2147483648L}, {MAX, 2147483648L},
            {-2147483583, -2147483520}, {-2147483585, MIN}, {-MAX, MIN}, {MIN, MIN},
        });
    }

    private static void evenFloat() {
        become(6, new long[][] {
            {16777217, 16777216}, {16777219, 16777220}, {-16777217, -16777216}, {-16777219, -16777220},
            {33554434, 33554432}, {33554438, 33554440}, {2147483456, 2147483392}, {2147483584, 2147483648L},
            {-2147483456, -2147483392}, {-2147483584, MIN},
        });
    }

    private static void doubles() {
        become(7, new long[][] {
            {0, 0}, {1, 1}, {-1, -1}, {16777217, 16777217}, {-16777219, -16777219}, {MAX, MAX}, {-MAX, -MAX}, {MIN, MIN},
        });
    }

    private static void booleansAreRead() {
        FaultBench x = new FaultBench();
        x.write(5, true, 0, 77);
        expect.gives(1, "read of true", () -> x.read(5, true, 0));
        x.write(5, true, 0, 0);
        expect.gives(0, "read of false", () -> x.read(5, true, 0));
    }

    /** A float of 2^31 is no int any more, and must not be read as the greatest one. */
    private static void floatsAndDoublesAreRead() {
        become(6, new long[][] {{MAX, 2147483648L}, {MIN, -2147483648L}, {3, 3}, {-3, -3}});
        become(7, new long[][] {{MAX, 2147483647L}, {MIN, -2147483648L}, {3, 3}, {-3, -3}});
    }

    private static FaultBench with(boolean discs, int what, int v) {
        FaultBench x = new FaultBench();
        x.boxes(1, discs);
        x.put(true, 0, what, v);
        return x;
    }

    private static void box() {
        FaultBench x = with(false, 1, -7);
        expect.gives(-7, "value", () -> x.value(0));
        expect.gives(-21, "weight with 0", () -> x.weigh(0, 0));
        expect.gives(-19, "weight with 2", () -> x.weigh(0, 2));
    }

    private static void disc() {
        for (int what : new int[] {2, 3}) {
            FaultBench x = with(false, what, -7);
            expect.gives(-7, "value", () -> x.value(0));
            expect.gives(-35, "weight with 0", () -> x.weigh(0, 0));
            expect.gives(-37, "weight with 2", () -> x.weigh(0, 2));
            expect.gives(-5, "roll with 2", () -> x.roll(0, 2));
            expect.gives(-8, "roll with 1", () -> x.roll(0, 1));
        }
    }

    /** Each row: value, x, weight. The first row and the last but one are the last without an overflow. */
    private static void boxOverflows() {
        long[][] due = {
            {715827882, 1, MAX}, {715827882, 2, MIN}, {715827883, 0, -2147483647}, {1000000000, 0, -1294967296},
            {MAX, 1, 2147483646}, {MAX, MAX, -4}, {MIN, -1, MAX}, {-715827882, -2, MIN}, {-715827882, -3, MAX},
        };
        for (long[] line : due) {
            FaultBench x = with(false, 1, (int) line[0]);
            expect.gives(line[2], line[0] + " with " + line[1], () -> x.weigh(0, (int) line[1]));
        }
    }

    /** As boxOverflows. */
    private static void discOverflows() {
        long[][] due = {
            {429496729, -2, MAX}, {429496729, -3, MIN}, {429496730, 0, -2147483646}, {1000000000, 0, 705032704},
            {0, MIN, MIN}, {MAX, 1, 2147483642}, {MAX, MAX, -4}, {MIN, -1, -2147483647}, {-429496729, 3, MIN},
            {-429496729, 4, MAX},
        };
        for (long[] line : due) {
            FaultBench x = with(true, 2, (int) line[0]);
            expect.gives(line[2], line[0] + " with " + line[1], () -> x.weigh(0, (int) line[1]));
        }
    }

    private static void rowOfDiscsIsOfBoxes() {
        FaultBench x = with(true, 2, 4);
        expect.gives(4, "value", () -> x.value(0));
        expect.gives(18, "weight", () -> x.weigh(0, 2));
        expect.gives(6, "roll", () -> x.roll(0, 2));
        expect.gives(4, "change", () -> x.change(0, 5));
        expect.gives(5, "value behind change", () -> x.value(0));
        expect.gives(2, "put of nothing", () -> x.put(true, 0, 0, 1));
        expect.raises(NOTHING, "value of nothing", () -> x.value(0));
    }

    private static void noBoxesAtFirst() {
        FaultBench x = new FaultBench();
        expect.raises(NOTHING, "value", () -> x.value(0));
        expect.raises(NOTHING, "put", () -> x.put(true, 0, 2, 1));
    }
}
