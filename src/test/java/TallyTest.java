import java.math.BigInteger;

/** Promises 37 to 41: what was tallied. */
public final class TallyTest {

    public static void main(String[] args) {
        nothing();
        numbers();
        batches();
        spread();
        spreadOfBatches();
        farTallies();
        askingThrows();
        Check.end();
    }

    private static void nothing() {
        Check.promise(38, "ofTally without any numbers");
        Sandglass x = new Sandglass();
        x.addTally(1);
        Check.due("tallied", 0, x.tallied(0));
        for (int what = 0; what < 4; what++) {
            Check.due("ofTally", 0, x.ofTally(0, what));
        }
        Check.due("batches", 0, x.batches(0));
        Check.due("spread", 0.0, x.spread(0));
        Check.dueThrow(Check.INDEX, x, "sumOf(0, 0)", () -> x.sumOf(0, 0));
    }

    /** Each process waits so long as its start is delayed, and tallies that at tally. */
    private static Sandglass tallying(int batch, int... numbers) {
        Sandglass x = new Sandglass();
        x.addTally(batch);
        Check.script(x, Check.tally(0));
        for (int number : numbers) {
            x.start(0, 0, number);
            x.run(number);
        }
        return x;
    }

    private static void numbers() {
        Check.promise(38, "ofTally, and 37 tallied");
        Sandglass x = tallying(3, 8, 3, 12, 5);
        Check.due("tallied", 4, x.tallied(0));
        Check.due("sum", 28, x.ofTally(0, 0));
        Check.due("least", 3, x.ofTally(0, 1));
        Check.due("greatest", 12, x.ofTally(0, 2));
        Check.due("latest", 5, x.ofTally(0, 3));
        Sandglass y = tallying(1, 7);
        for (int what = 0; what < 4; what++) {
            Check.due("of the only one", 7, y.ofTally(0, what));
        }
        Sandglass z = tallying(1, 4, 0);
        Check.due("least of 4 and 0", 0, z.ofTally(0, 1));
        Check.due("latest of 4 and 0", 0, z.ofTally(0, 3));
        Check.due("greatest of 4 and 0", 4, z.ofTally(0, 2));
    }

    private static void batches() {
        Check.promise(39, "batches, and 40 sumOf");
        Sandglass x = tallying(3, 8, 3, 12, 5, 1, 2, 9, 9);
        Check.due("batches", 2, x.batches(0));
        Check.due("sumOf", 23, x.sumOf(0, 0));
        Check.due("sumOf", 8, x.sumOf(0, 1));
        Check.dueThrow(Check.INDEX, x, "a batch not yet full", () -> x.sumOf(0, 2));
        Check.dueThrow(Check.INDEX, x, "sumOf(0, -1)", () -> x.sumOf(0, -1));
        Check.dueThrow(Check.INDEX, x, "sumOf far", () -> x.sumOf(0, Integer.MAX_VALUE));
        x.start(0, 0, 1);
        x.run(1);
        Check.due("as soon as it is full", 3, x.batches(0));
        Check.due("sumOf", 19, x.sumOf(0, 2));
        Sandglass y = tallying(1, 6, 2);
        Check.due("batches of 1", 2, y.batches(0));
        Check.due("sumOf", 6, y.sumOf(0, 0));
        Check.due("sumOf", 2, y.sumOf(0, 1));
        Sandglass z = tallying(20, 1, 1, 1, 1, 1, 1, 1, 1, 1, 1, 1, 1, 1, 1, 1, 1, 1, 1, 1);
        Check.due("batches of 20, with 19", 0, z.batches(0));
        z.start(0, 0, 5);
        z.run(5);
        Check.due("batches of 20, with 20", 1, z.batches(0));
        Check.due("sumOf", 24, z.sumOf(0, 0));
    }

    private static void spread() {
        Check.promise(41, "spread");
        Check.due("of one batch", 0.0, tallying(1, 9).spread(0));
        Check.due("of one batch and a half", 0.0, tallying(2, 9, 1, 4).spread(0));
        Check.due("of two", 2.0, tallying(1, 4, 2).spread(0));
        Check.due("of two", 0.5, tallying(1, 4, 3).spread(0));
        Check.due("of three, not cut", 7.0 / 3.0, tallying(1, 1, 2, 4).spread(0));
        Check.due("of equal ones", 0.0, tallying(1, 5, 5, 5).spread(0));
        Check.due("with batches of 2: 5, 9, 3", (3 * 115.0 - 17 * 17) / 24,
                tallying(2, 1, 4, 4, 5, 3, 0, 99).spread(0));
        Check.due("with batches of 3: 3, 4", 1.0 / 18.0, tallying(3, 1, 1, 1, 1, 1, 2).spread(0));
    }

    private static void spreadOfBatches() {
        Check.promise(41, "spread, reckoned anew for many batches");
        for (int batch = 1; batch <= 20; batch++) {
            int[] numbers = new int[24];
            int luck = 17 * batch;
            for (int i = 0; i < numbers.length; i++) {
                luck = (luck * 4621 + 2777) % 10000;
                numbers[i] = luck % 1000;
            }
            Sandglass x = tallying(batch, numbers);
            Check.due("batches", 24 / batch, x.batches(0));
            long[] sums = new long[24 / batch];
            for (int i = 0; i < sums.length; i++) {
                for (int j = i * batch; j < (i + 1) * batch; j++) {
                    sums[i] += numbers[j];
                }
                Check.due("sumOf", sums[i], x.sumOf(0, i));
            }
            Check.due("spread with batches of " + batch, reckoned(sums, batch), x.spread(0));
        }
    }

    /** The spread by the words of the promise, with whole numbers of any length. */
    private static double reckoned(long[] sums, int batch) {
        BigInteger all = BigInteger.ZERO;
        BigInteger squares = BigInteger.ZERO;
        long k = sums.length;
        for (long s : sums) {
            all = all.add(BigInteger.valueOf(s));
            squares = squares.add(BigInteger.valueOf(s * s));
        }
        BigInteger over = BigInteger.valueOf(k).multiply(squares).subtract(all.multiply(all));
        return k < 2 ? 0.0 : over.doubleValue() / (double) (k * (k - 1) * batch * batch);
    }

    /** A run of 512 calls that tallies as much as it can, far above what a long holds. */
    private static void farTallies() {
        Check.promise(41, "spread, of very many tallies");
        int[] sizes = {1, 20};
        for (int batch : sizes) {
            Sandglass x = new Sandglass();
            x.addTally(batch);
            int[][] rows = new int[16][];
            for (int i = 0; i < 11; i++) {
                rows[i] = Check.tally(0);
            }
            rows[11] = Check.again(0, 2);
            rows[12] = Check.pause(2, 0);
            rows[13] = Check.again(0, 20);
            rows[14] = Check.again(0, 20);
            rows[15] = Check.again(0, 20);
            Check.script(x, rows);
            int calls = 18;
            for (int i = 0; i < 24; i++) {
                x.start(0, 0, i % 2);
                calls++;
            }
            for (; calls < 508; calls++) {
                x.run(999);
            }
            int numbers = 33 * 466 * 400;
            Check.due("tallied", numbers, x.tallied(0));
            Check.due("batches", numbers / batch, x.batches(0));
            Check.due("spread", reckoned(farSums(numbers, batch), batch), x.spread(0));
        }
    }

    /** The sums of the batches: 12 events at each tick, of which each tallies 33 times. */
    private static long[] farSums(int numbers, int batch) {
        long[] sums = new long[numbers / batch];
        for (int i = 0; i < sums.length * batch; i++) {
            sums[i / batch] += i / (12 * 33);
        }
        return sums;
    }

    private static void askingThrows() {
        Check.promise(37, "asking for tallies that there are not: promises 37 to 41");
        Sandglass x = new Sandglass();
        x.addTally(1);
        int[] none = {-1, 1, 4, Integer.MIN_VALUE, Integer.MAX_VALUE};
        for (int t : none) {
            Check.dueThrow(Check.INDEX, x, "tallied(" + t + ")", () -> x.tallied(t));
            Check.dueThrow(Check.INDEX, x, "ofTally(" + t + ", 0)", () -> x.ofTally(t, 0));
            Check.dueThrow(Check.INDEX, x, "ofTally(" + t + ", 9)", () -> x.ofTally(t, 9));
            Check.dueThrow(Check.INDEX, x, "batches(" + t + ")", () -> x.batches(t));
            Check.dueThrow(Check.INDEX, x, "sumOf(" + t + ", 0)", () -> x.sumOf(t, 0));
            Check.dueThrow(Check.INDEX, x, "spread(" + t + ")", () -> (long) x.spread(t));
        }
        Check.dueThrow(Check.ARGUMENT, x, "ofTally(0, -1)", () -> x.ofTally(0, -1));
        Check.dueThrow(Check.ARGUMENT, x, "ofTally(0, 4)", () -> x.ofTally(0, 4));
    }
}
