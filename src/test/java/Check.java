import java.lang.reflect.InvocationTargetException;
import java.lang.reflect.Method;
import java.util.List;
import java.util.function.LongSupplier;
import java.util.function.Supplier;
import java.util.function.ToLongFunction;

/** What all tests of the project use: answers that are due, exceptions that are due. */
class Check {

    static final String INDEX = "IndexOutOfBoundsException";
    static final String ARGUMENT = "IllegalArgumentException";
    static final String STATE = "IllegalStateException";

    private static int checks;
    private static int wrong;
    private static String promise = "";

    Check() {
    }

    /** Runs each test of the class that names its sentence; one that fails stops none other. */
    static void tests(Class<?> tests) {
        int before = checks;
        for (Method test : tests.getDeclaredMethods()) {
            Says says = test.getAnnotation(Says.class);
            if (says == null) {
                continue;
            }
            promise = says.part() + " (" + says.words() + "), " + test.getName() + ": ";
            try {
                test.invoke(null);
            } catch (InvocationTargetException e) {
                fail("the test was stopped by " + e.getCause());
            } catch (IllegalAccessException e) {
                fail("the test cannot be run: " + e);
            }
        }
        promise = tests.getName() + ": ";
        due("there were checks", 1, checks > before ? 1 : 0);
    }

    /** Names what the checks from here on are about. */
    static void promise(int number, String about) {
        promise = "promise " + number + " (" + about + "): ";
    }

    static void due(String what, long want, long got) {
        checks++;
        if (want != got) {
            fail(what + " answered " + got + ", due is " + want);
        }
    }

    static void due(String what, double want, double got) {
        checks++;
        if (want != got) {
            fail(what + " answered " + got + ", due is " + want);
        }
    }

    static void dueText(String what, String want, String got) {
        checks++;
        if (!want.equals(got)) {
            fail(what + " answered " + got + ", due is " + want);
        }
    }

    /** The call throws exactly this exception, and the object answers as before. */
    static void dueThrow(String exception, Sandglass x, String what, LongSupplier call) {
        long before = x.digest();
        String thrown = "nothing";
        try {
            call.getAsLong();
        } catch (RuntimeException e) {
            thrown = e.getClass().getSimpleName();
        }
        dueText(what + " throws", exception, thrown);
        due("the digest behind " + what, before, x.digest());
    }

    /**
     * The call throws exactly this, and has changed nothing: the object that it was made on, and
     * another one made alike, answer alike to all that comes later.
     */
    static void refused(String exception, Supplier<Sandglass> made, String what,
            ToLongFunction<Sandglass> call) {
        Sandglass x = made.get();
        dueText(what + " throws", exception, Later.answer(() -> call.applyAsLong(x)));
        List<String> want = Later.of(made.get());
        List<String> got = Later.of(x);
        for (int i = 0; i < want.size(); i++) {
            if (!want.get(i).equals(got.get(i))) {
                dueText("behind " + what + ", call " + i + " later", want.get(i), got.get(i));
                return;
            }
        }
        checks++;
    }

    static void fail(String text) {
        wrong++;
        System.out.println(promise + text);
    }

    /** Ends the program with exit code 1 if anything was wrong. */
    static void end() {
        System.out.println(checks + " checks, " + wrong + " wrong");
        if (wrong != 0) {
            System.exit(1);
        }
    }

    // ---- short names for what a script is made of

    static int[] pause(int a, int b) {
        return new int[] {0, a, b};
    }

    static int[] seize(int a, int b) {
        return new int[] {1, a, b};
    }

    static int[] release(int a, int b) {
        return new int[] {2, a, b};
    }

    static int[] put(int a, int b) {
        return new int[] {3, a, b};
    }

    static int[] get(int a, int b) {
        return new int[] {4, a, b};
    }

    static int[] signal(int a) {
        return new int[] {5, a, 0};
    }

    static int[] await(int a) {
        return new int[] {6, a, 0};
    }

    static int[] spawn(int a, int b) {
        return new int[] {7, a, b};
    }

    static int[] mark() {
        return new int[] {8, 0, 0};
    }

    static int[] tally(int a) {
        return new int[] {9, a, 0};
    }

    static int[] again(int a, int b) {
        return new int[] {10, a, b};
    }

    static int[] rest() {
        return new int[] {11, 0, 0};
    }

    static int[] rank(int a) {
        return new int[] {12, a, 0};
    }

    static int[] skip(int a, int b) {
        return new int[] {13, a, b};
    }

    /** Adds a script with these instructions, and answers its number. */
    static int script(Sandglass x, int[]... instructions) {
        int number = x.addScript();
        for (int[] i : instructions) {
            x.add(number, i[0], i[1], i[2]);
        }
        return number;
    }
}
