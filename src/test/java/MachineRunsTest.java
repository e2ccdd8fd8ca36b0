import java.io.IOException;
import java.nio.file.Files;
import java.nio.file.Path;
import java.util.List;

/**
 * Long runs of calls, the same at every start, against a bench that lets the machine itself throw;
 * the program must answer alike, and only by a throw statement of its own.
 */
public final class MachineRunsTest {
    private static final int RUNS = 400;
    private static final int CALLS = 512;
    private static final Path SOURCE = Path.of("src/main/java/FaultBench.java");

    private static final int[] EDGES = {
        0, 1, -1, 2, 3, 8, 9, -9, 19, 20, -20, 39, 40, -40, 41, 127, 128, 255, 256, 32767, 32768, 65535, 65536,
        16777217, 16777219, Integer.MAX_VALUE, Integer.MIN_VALUE,
    };

    private static final Expect expect = new Expect("MachineRunsTest");
    private static long seed = 20261115L;

    public static void main(String[] args) throws IOException {
        List<String> source = Files.readAllLines(SOURCE);
        for (int run = 0; run < RUNS; run++) {
            FaultBench bench = new FaultBench();
            Machine machine = new Machine();
            for (int call = 0; call < CALLS; call++) {
                step("run " + run + ", call " + call + ": ", bench, machine, source);
            }
        }
        expect.end();
    }

    private static void step(String where, FaultBench x, Machine y, List<String> source) {
        int a = number();
        int b = number();
        int c = number();
        boolean there = below(6) != 0;
        boolean flag = below(2) == 0;
        String args = a + ", " + b + ", " + c + ", " + there + ", " + flag;
        switch (below(16)) {
            case 0 -> same(where + "read " + args, source, () -> x.read(a, there, b), () -> y.read(a, there, b));
            case 1 -> same(where + "write " + args, source, () -> x.write(a, there, b, c), () -> y.write(a, there, b, c));
            case 2 -> same(where + "length " + args, source, () -> x.length(a, there), () -> y.length(a, there));
            case 3 -> same(where + "make " + args, source, () -> x.make(a, b), () -> y.make(a, b));
            case 4 -> same(where + "grid " + args, source, () -> x.grid(a, b), () -> y.grid(a, b));
            case 5 -> same(where + "cell " + args, source, () -> x.cell(a, b), () -> y.cell(a, b));
            case 6 -> same(where + "boxes " + args, source, () -> x.boxes(a, flag), () -> y.boxes(a, flag));
            case 7, 8 -> same(where + "put " + args, source, () -> x.put(there, a, b, c), () -> y.put(there, a, b, c));
            case 9 -> same(where + "value " + args, source, () -> x.value(a), () -> y.value(a));
            case 10 -> same(where + "change " + args, source, () -> x.change(a, b), () -> y.change(a, b));
            case 11 -> same(where + "weigh " + args, source, () -> x.weigh(a, b), () -> y.weigh(a, b));
            case 12 -> same(where + "roll " + args, source, () -> x.roll(a, b), () -> y.roll(a, b));
            case 13 -> same(where + "divide " + args, source, () -> x.divide(a, b, flag), () -> y.divide(a, b, flag));
            case 14 -> same(where + "raise " + args, source, () -> x.raise(there), () -> y.raise(there));
            default -> {
                long p = ((long) a << 32) + b;
                long q = there ? c : (long) c << 32;
                same(where + "divideLong " + p + ", " + q, source,
                    () -> x.divideLong(p, q, flag), () -> y.divideLong(p, q, flag));
            }
        }
    }

    private static void same(String what, List<String> source, Expect.Call program, Expect.Call machine) {
        String due = Expect.outcome(machine);
        expect.same(due, what, Expect.outcome(() -> byThrowStatement(what, source, program)));
    }

    private static long byThrowStatement(String what, List<String> source, Expect.Call program) {
        try {
            return program.run();
        } catch (RuntimeException e) {
            StackTraceElement[] trace = e.getStackTrace();
            String line = trace.length == 0 ? "no line" : source.get(trace[0].getLineNumber() - 1).trim();
            expect.same("true", what + " is thrown at: " + line, "" + line.startsWith("throw new "));
            throw e;
        }
    }

    /** Mostly small numbers, so that many calls do not throw; now and then an edge or any number at all. */
    private static int number() {
        int way = below(10);
        if (way < 7) {
            return below(8) - (below(8) == 0 ? 8 : 0);
        }
        return way < 9 ? EDGES[below(EDGES.length)] : below(Integer.MAX_VALUE) * (below(2) * 2 - 1);
    }

    private static int below(int limit) {
        seed = seed * 6364136223846793005L + 1442695040888963407L;
        return (int) ((seed >>> 33) % limit);
    }

    /** The document in the machine's own words: nothing is looked at before it is used. */
    private static final class Machine {
        private final Object[] rows = {
            new int[3], new long[3], new short[3], new byte[3], new char[3], new boolean[3], new float[3], new double[3],
        };
        private int[][] grid;
        private Thing[] things;
        private int written;
        private int came;

        private Object row(int kind, boolean there) {
            return there ? rows[kind & 7] : null;
        }

        long read(int kind, boolean there, int i) {
            Object row = row(kind, there);
            return switch (kind & 7) {
                case 0 -> ((int[]) row)[i];
                case 1 -> ((long[]) row)[i];
                case 2 -> ((short[]) row)[i];
                case 3 -> ((byte[]) row)[i];
                case 4 -> ((char[]) row)[i];
                case 5 -> ((boolean[]) row)[i] ? 1 : 0;
                case 6 -> (long) ((float[]) row)[i];
                default -> (long) ((double[]) row)[i];
            };
        }

        int write(int kind, boolean there, int i, int v) {
            Object row = row(kind, there);
            switch (kind & 7) {
                case 0 -> ((int[]) row)[i] = v;
                case 1 -> ((long[]) row)[i] = v;
                case 2 -> ((short[]) row)[i] = (short) v;
                case 3 -> ((byte[]) row)[i] = (byte) v;
                case 4 -> ((char[]) row)[i] = (char) v;
                case 5 -> ((boolean[]) row)[i] = v != 0;
                case 6 -> ((float[]) row)[i] = v;
                default -> ((double[]) row)[i] = v;
            }
            return ++written;
        }

        int length(int kind, boolean there) {
            return java.lang.reflect.Array.getLength(row(kind, there));
        }

        int make(int kind, int n) {
            rows[kind & 7] = java.lang.reflect.Array.newInstance(rows[kind & 7].getClass().getComponentType(), n % 40);
            return n % 40;
        }

        int grid(int n, int m) {
            int[][] made = new int[n % 9][m % 9];
            for (int i = 0; i < made.length; i++) {
                for (int j = 0; j < made[i].length; j++) {
                    made[i][j] = 10 * i + j;
                }
            }
            grid = made;
            return made.length * (m % 9);
        }

        int cell(int i, int j) {
            return grid[i][j];
        }

        int boxes(int n, boolean discs) {
            things = discs ? new Wheel[n % 20] : new Thing[n % 20];
            return things.length;
        }

        int put(boolean there, int i, int what, int v) {
            Thing[] row = there ? things : null;
            row[i] = (what & 3) == 0 ? null : (what & 3) == 1 ? new Thing(v) : new Wheel(v);
            return ++came;
        }

        int value(int i) {
            return things[i].number;
        }

        int change(int i, int v) {
            int before = things[i].number;
            things[i].number = v;
            return before;
        }

        int weigh(int i, int x) {
            return things[i].weight(x);
        }

        int roll(int i, int x) {
            Wheel wheel = (Wheel) things[i];
            return wheel.number ^ x;
        }

        int divide(int a, int b, boolean rest) {
            return rest ? a % b : a / b;
        }

        long divideLong(long a, long b, boolean rest) {
            return rest ? a % b : a / b;
        }

        int raise(boolean there) {
            int[] row = there ? new int[1] : null;
            return 1 / row[0];
        }
    }

    private static class Thing {
        int number;

        Thing(int number) {
            this.number = number;
        }

        int weight(int x) {
            return number * 3 + x;
        }
    }

    private static final class Wheel extends Thing {
        Wheel(int number) {
            super(number);
        }

        @Override
        int weight(int x) {
            return number * 5 - x;
        }
    }
}
