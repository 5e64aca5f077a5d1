import java.math.BigInteger;
import java.util.function.ToLongBiFunction;

/** The boundaries of the promises 37 to 41: what was tallied. */
public final class TalliesEdgeTest extends Check {

    public static void main(String[] args) {
        tests(TalliesEdgeTest.class);
        end();
    }

    /** These numbers, tallied one behind the other at the tally 1; there are 0 and 1. */
    private static Sandglass tallying(int batch, int... numbers) {
        Sandglass x = new Sandglass();
        x.addTally(1);
        x.addTally(batch);
        script(x, tally(1));
        for (int number : numbers) {
            x.start(0, 0, number);
            x.run(number);
        }
        return x;
    }

    private static int[] count(int numbers) {
        int[] row = new int[numbers];
        for (int i = 0; i < numbers; i++) {
            row[i] = i + 1;
        }
        return row;
    }

    // ---- Promise 37

    @Says(part = "Promise 37", words = "Returns how many numbers were tallied there.")
    static void tallied() {
        due("none", 0, tallying(3).tallied(1));
        due("a number of 0", 1, tallying(3, 0).tallied(1));
        due("one less than a batch", 2, tallying(3, 4, 4).tallied(1));
        due("a batch", 3, tallying(3, 4, 4, 4).tallied(1));
        due("one more than a batch", 4, tallying(3, 4, 4, 4, 4).tallied(1));
        due("at the other tally", 0, tallying(3, 4).tallied(0));
    }

    private static void refusedForNoTally(String name,
            ToLongBiFunction<Sandglass, Integer> call) {
        for (int tally = 0; tally < 4; tally++) {
            int there = tally;
            String answer = Later.answer(() -> call.applyAsLong(fourTallies(), there));
            dueText(name + " of " + tally, "0", answer);
        }
        int[] none = {-1, 4, Integer.MIN_VALUE, Integer.MAX_VALUE};
        for (int tally : none) {
            refused(INDEX, TalliesEdgeTest::fourTallies, name + " of " + tally,
                    x -> call.applyAsLong(x, tally));
        }
        refused(INDEX, Sandglass::new, name + " of 0 without any", x -> call.applyAsLong(x, 0));
        refused(INDEX, () -> tallying(1, 5), name + " of 2 of two", x -> call.applyAsLong(x, 2));
    }

    /** Four tallies, each with one batch, that is full, of one 0. */
    private static Sandglass fourTallies() {
        Sandglass x = new Sandglass();
        for (int i = 0; i < 4; i++) {
            x.addTally(1);
            x.start(script(x, tally(i)), 0, 0);
        }
        x.run(0);
        return x;
    }

    @Says(part = "Promise 37", words = "Throws `IndexOutOfBoundsException` if there is no such tally")
    static void tallyOfTallied() {
        refusedForNoTally("tallied less 1", (x, t) -> x.tallied(t) - 1);
    }

    // ---- Promise 38

    @Says(part = "Promise 38", words = "0 the sum, 1 the least, 2 the greatest, 3 the latest of its numbers")
    static void ofNumbers() {
        int[][] rows = {{7}, {0}, {3, 9}, {9, 3}, {5, 5}, {4, 0, 8}, {0, 8, 4}, {8, 4, 0}, {2, 1, 1, 2}};
        int[][] told = {{7, 7, 7, 7}, {0, 0, 0, 0}, {12, 3, 9, 9}, {12, 3, 9, 3}, {10, 5, 5, 5},
            {12, 0, 8, 8}, {12, 0, 8, 4}, {12, 0, 8, 0}, {6, 1, 2, 2}};
        for (int i = 0; i < rows.length; i++) {
            Sandglass x = tallying(3, rows[i]);
            for (int what = 0; what <= 3; what++) {
                due("of the row " + i + ", " + what, told[i][what], x.ofTally(1, what));
                due("of the other tally", 0, x.ofTally(0, what));
            }
        }
    }

    @Says(part = "Promise 38", words = "0 without any")
    static void ofNoNumbers() {
        for (int what = 0; what <= 3; what++) {
            due("what " + what, 0, tallying(3).ofTally(1, what));
        }
    }

    @Says(part = "Promise 38", words = "Returns that.")
    static void ofNumbersInNoBatchYet() {
        Sandglass x = tallying(20, 6, 2, 4);
        int[] told = {12, 2, 6, 4};
        for (int what = 0; what <= 3; what++) {
            due("what " + what, told[what], x.ofTally(1, what));
        }
    }

    @Says(part = "Promise 38", words = "Throws `IndexOutOfBoundsException` if there is no such tally")
    static void tallyOfOfTally() {
        for (int what = 0; what <= 3; what++) {
            int asked = what;
            refusedForNoTally("ofTally", (x, t) -> x.ofTally(t, asked));
        }
    }

    @Says(part = "Promise 38", words = "if what is not 0 to 3")
    static void whatOfATally() {
        due("what 0", 9, tallying(3, 4, 5).ofTally(1, 0));
        due("what 3", 5, tallying(3, 4, 5).ofTally(1, 3));
        int[] none = {-1, 4, Integer.MIN_VALUE, Integer.MAX_VALUE};
        for (int what : none) {
            refused(ARGUMENT, () -> tallying(3, 4, 5), "what " + what, x -> x.ofTally(1, what));
            refused(ARGUMENT, () -> tallying(3), "what " + what + " without any",
                    x -> x.ofTally(1, what));
        }
    }

    // ---- Promise 39

    @Says(part = "Promise 39", words = "Returns how many full batches it has.")
    static void batches() {
        int[] sizes = {1, 2, 11, 12, 19, 20};
        for (int size : sizes) {
            due("none", 0, tallying(size).batches(1));
            due("one less than full", 0, tallying(size, count(size - 1)).batches(1));
            due("full", 1, tallying(size, count(size)).batches(1));
            due("one more than full", size == 1 ? 2 : 1, tallying(size, count(size + 1)).batches(1));
        }
        due("one less than two", 1, tallying(12, count(23)).batches(1));
        due("two", 2, tallying(12, count(24)).batches(1));
        due("of the other tally", 0, tallying(12, count(24)).batches(0));
    }

    @Says(part = "Promise 39", words = "Throws `IndexOutOfBoundsException` if there is no such tally")
    static void tallyOfBatches() {
        refusedForNoTally("batches less 1", (x, t) -> x.batches(t) - 1);
    }

    // ---- Promise 40

    @Says(part = "Promise 40", words = "Returns the sum of its numbers.")
    static void sumOf() {
        Sandglass x = tallying(3, 5, 0, 2, 9, 9, 9, 1);
        due("the first", 7, x.sumOf(1, 0));
        due("the last full one", 27, x.sumOf(1, 1));
        Sandglass y = tallying(1, 5, 0);
        due("of one number", 5, y.sumOf(1, 0));
        due("of a 0", 0, y.sumOf(1, 1));
        Sandglass z = tallying(20, count(24));
        due("of twenty", 210, z.sumOf(1, 0));
    }

    @Says(part = "Promise 40", words = "if there is no such tally, or batch")
    static void tallyOfSumOf() {
        refusedForNoTally("sumOf", (x, t) -> x.sumOf(t, 0));
    }

    @Says(part = "Promise 40", words = "if there is no such tally, or batch")
    static void batchOfSumOf() {
        due("the last full one", 11, tallying(2, 1, 2, 5, 6).sumOf(1, 1));
        int[] none = {-1, 2, 3, Integer.MIN_VALUE, Integer.MAX_VALUE};
        for (int batch : none) {
            refused(INDEX, () -> tallying(2, 1, 2, 5, 6), "batch " + batch + " of 2",
                    x -> x.sumOf(1, batch));
            refused(INDEX, () -> tallying(2, 1, 2, 5, 6, 7), "batch " + batch + " of 2 and a half",
                    x -> x.sumOf(1, batch));
        }
        refused(INDEX, () -> tallying(2), "batch 0 of none", x -> x.sumOf(1, 0));
        refused(INDEX, () -> tallying(2, 4), "batch 0 of a half", x -> x.sumOf(1, 0));
        refused(INDEX, () -> tallying(20, count(19)), "batch 0 with 19 of 20", x -> x.sumOf(1, 0));
        due("batch 0 with 20 of 20", 210, tallying(20, count(20)).sumOf(1, 0));
    }

    // ---- Promise 41

    @Says(part = "Promise 41", words = "0 with less than 2")
    static void spreadOfFewBatches() {
        due("of none", 0.0, tallying(1).spread(1));
        due("of one", 0.0, tallying(1, 7).spread(1));
        due("of one and a half", 0.0, tallying(2, 7, 1, 9).spread(1));
        due("of two", 18.0, tallying(1, 7, 1).spread(1));
        due("of two with 2 each", 4.5, tallying(2, 7, 1, 5, 9).spread(1));
    }

    @Says(part = "Promise 41", words = "With k full batches, whose sums are s, S the sum of all these, and"
            + " Q the sum of the squares of them: (k * Q - S * S) / (k * (k - 1)), not cut, divided by"
            + " BATCH * BATCH")
    static void spreadNotCut() {
        due("of 1, 2, 4", 7.0 / 3.0, tallying(1, 1, 2, 4).spread(1));
        due("of 0 and 1", 0.5, tallying(1, 0, 1).spread(1));
        due("of 3 / 3 and 4 / 3", 1.0 / 18.0, tallying(3, 1, 1, 1, 2, 1, 1).spread(1));
        due("of 5, 9, 3 and one in no batch", (3 * 115.0 - 17 * 17) / 24,
                tallying(2, 1, 4, 4, 5, 3, 0, 99).spread(1));
        due("of three alike", 0.0, tallying(1, 6, 6, 6).spread(1));
        due("of the other tally", 0.0, tallying(1, 1, 2, 4).spread(0));
    }

    @Says(part = "Promise 41", words = "what is over the bar is reckoned as a whole number, then divided by"
            + " the whole number k * (k - 1) * BATCH * BATCH once.")
    static void spreadOfFarNumbers() {
        Sandglass x = new Sandglass();
        x.addTally(7);
        script(x, await(0), tally(0), tally(0), again(1, 9), pause(1, 0), again(1, 20), again(1, 11));
        script(x, signal(0));
        x.start(0, 0, 0);
        for (int i = 0; i < 440; i++) {
            x.run(999);
        }
        x.start(1, 0, 0);
        x.run(999);
        due("tallied", 20 * 252, x.tallied(0));
        BigInteger all = BigInteger.ZERO;
        BigInteger squares = BigInteger.ZERO;
        for (int batch = 0; batch < 720; batch++) {
            long sum = 0;
            for (int i = 7 * batch; i < 7 * batch + 7; i++) {
                sum += 440 * 999 + i / 20;
            }
            all = all.add(BigInteger.valueOf(sum));
            squares = squares.add(BigInteger.valueOf(sum * sum));
        }
        BigInteger over = BigInteger.valueOf(720).multiply(squares).subtract(all.multiply(all));
        due("spread", over.doubleValue() / (720.0 * 719 * 7 * 7), x.spread(0));
        due("the last sum", 7 * (440 * 999 + 251), x.sumOf(0, 719));
    }

    @Says(part = "Promise 41", words = "Returns that (the variance of the means of its batches)")
    static void spreadIsAVariance() {
        due("of the means 2, 4, 6", 4.0, tallying(2, 1, 3, 4, 4, 0, 12).spread(1));
        due("of the means 2, 4, 6, in another order", 4.0, tallying(2, 6, 6, 1, 3, 8, 0).spread(1));
    }

    @Says(part = "Promise 41", words = "Throws `IndexOutOfBoundsException` if there is no such tally")
    static void tallyOfSpread() {
        refusedForNoTally("spread", (x, t) -> (long) x.spread(t));
    }
}
