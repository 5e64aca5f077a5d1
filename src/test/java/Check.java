import java.util.function.LongSupplier;

/** What all tests of the project use: answers that are due, exceptions that are due. */
final class Check {

    static final String INDEX = "IndexOutOfBoundsException";
    static final String ARGUMENT = "IllegalArgumentException";
    static final String STATE = "IllegalStateException";

    private static int checks;
    private static int wrong;
    private static String promise = "";

    private Check() {
    }

    /** Names what the checks from here on are about. */
    static void promise(int number, String about) {
        promise = "promise " + number + " (" + about + "): ";
    }

    static void due(String what, long want, long got) {
        checks++;
        if (want != got) {
            fail(what + " answered " + got + ", due is " + want);
        }
    }

    static void due(String what, double want, double got) {
        checks++;
        if (want != got) {
            fail(what + " answered " + got + ", due is " + want);
        }
    }

    static void dueText(String what, String want, String got) {
        checks++;
        if (!want.equals(got)) {
            fail(what + " answered " + got + ", due is " + want);
        }
    }

    /** The call throws exactly this exception, and the object answers as before. */
    static void dueThrow(String exception, Sandglass x, String what, LongSupplier call) {
        long before = x.digest();
        String thrown = "nothing";
        try {
            call.getAsLong();
        } catch (RuntimeException e) {
            thrown = e.getClass().getSimpleName();
        }
        dueText(what + " throws", exception, thrown);
        due("the digest behind " + what, before, x.digest());
    }

    static void fail(String text) {
        wrong++;
        System.out.println(promise + text);
    }

    /** Ends the program with exit code 1 if anything was wrong. */
    static void end() {
        System.out.println(checks + " checks, " + wrong + " wrong");
        if (wrong != 0) {
            System.exit(1);
        }
    }

    // ---- short names for what a script is made of

    static int[] pause(int a, int b) {
        return new int[] {0, a, b};
    }

    static int[] seize(int a, int b) {
        return new int[] {1, a, b};
    }

    static int[] release(int a, int b) {
        return new int[] {2, a, b};
    }

    static int[] put(int a, int b) {
        return new int[] {3, a, b};
    }

    static int[] get(int a, int b) {
        return new int[] {4, a, b};
    }

    static int[] signal(int a) {
        return new int[] {5, a, 0};
    }

    static int[] await(int a) {
        return new int[] {6, a, 0};
    }

    static int[] spawn(int a, int b) {
        return new int[] {7, a, b};
    }

    static int[] mark() {
        return new int[] {8, 0, 0};
    }

    static int[] tally(int a) {
        return new int[] {9, a, 0};
    }

    static int[] again(int a, int b) {
        return new int[] {10, a, b};
    }

    static int[] rest() {
        return new int[] {11, 0, 0};
    }

    static int[] rank(int a) {
        return new int[] {12, a, 0};
    }

    static int[] skip(int a, int b) {
        return new int[] {13, a, b};
    }

    /** Adds a script with these instructions, and answers its number. */
    static int script(Sandglass x, int[]... instructions) {
        int number = x.addScript();
        for (int[] i : instructions) {
            x.add(number, i[0], i[1], i[2]);
        }
        return number;
    }
}
