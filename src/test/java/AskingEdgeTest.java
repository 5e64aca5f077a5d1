import java.util.function.ToLongBiFunction;

/** The boundaries of the promises 14 to 36: asking. */
public final class AskingEdgeTest extends Check {

    public static void main(String[] args) {
        tests(AskingEdgeTest.class);
        end();
    }

    /** Asks for all that there are, numbered from 0, and for those just outside and far away. */
    private static void numbers(String name, int count, ToLongBiFunction<Sandglass, Integer> call) {
        for (int i = 0; i < count; i++) {
            int number = i;
            String answer = Later.answer(() -> call.applyAsLong(Worlds.full(), number));
            due(name + " of " + i + " is told: " + answer, 1, answer.startsWith("I") ? 0 : 1);
        }
        int[] none = {-1, count, count + 1, Integer.MIN_VALUE, Integer.MAX_VALUE};
        for (int number : none) {
            refused(INDEX, Worlds::full, name + " of " + number, x -> call.applyAsLong(x, number));
        }
        int[] ofNone = {-1, 0, 1};
        for (int number : ofNone) {
            refused(INDEX, Sandglass::new, name + " of " + number + " without any",
                    x -> call.applyAsLong(x, number));
        }
    }

    // ---- of all

    @Says(part = "Promise 14", words = "Returns the TIME.")
    static void time() {
        Sandglass x = new Sandglass();
        due("at first", 0, x.time());
        script(x, pause(4, 0), pause(4, 0));
        x.start(0, 0, 3);
        x.step();
        due("behind a step", 3, x.time());
        x.run(0);
        due("behind run(0)", 3, x.time());
        x.run(999);
        due("behind run(999)", 1002, x.time());
    }

    @Says(part = "Promise 15", words = "Returns the LUCK.")
    static void luck() {
        Sandglass x = new Sandglass();
        due("at first", 0, x.luck());
        x.setLuck(9999);
        due("as it was told", 9999, x.luck());
        script(x, pause(0, 1));
        x.start(0, 0, 0);
        due("ahead of a draw", 9999, x.luck());
        x.step();
        due("behind a draw", 8156, x.luck());
    }

    @Says(part = "Promise 16", words = "Returns how many events there are.")
    static void events() {
        Sandglass x = new Sandglass();
        due("without any", 0, x.events());
        script(x, pause(5, 0));
        for (int i = 0; i < 24; i++) {
            x.start(0, 0, 0);
            due("of those that are READY", i + 1, x.events());
        }
        x.run(0);
        due("of those that are WAITING", 24, x.events());
        x.run(5);
        due("of those that have ENDED", 0, x.events());
        due("with two of eight states", 2, Worlds.states().events());
    }

    @Says(part = "Promise 17", words = "Returns the time of the next event; -1 without one.")
    static void nextTime() {
        Sandglass x = new Sandglass();
        due("without one", -1, x.nextTime());
        script(x);
        x.start(0, 0, 999);
        due("of the only one", 999, x.nextTime());
        x.start(0, 0, 998);
        due("of the next one", 998, x.nextTime());
        x.start(0, 0, 0);
        due("at this TIME", 0, x.nextTime());
        x.run(998);
        due("of the one left", 999, x.nextTime());
        x.step();
        due("without one left", -1, x.nextTime());
        Sandglass waiting = Worlds.states();
        waiting.cancel(0);
        waiting.cancel(1);
        due("as the others have none", -1, waiting.nextTime());
    }

    @Says(part = "Promise 18", words = "Returns how many processes were started.")
    static void processes() {
        Sandglass x = new Sandglass();
        due("none", 0, x.processes());
        script(x);
        script(x, spawn(0, 0));
        x.start(0, 0, 0);
        due("one that is READY", 1, x.processes());
        x.step();
        due("one that has ENDED", 1, x.processes());
        x.start(1, 0, 0);
        x.step();
        due("with one that was spawned", 3, x.processes());
        for (int i = 3; i < 24; i++) {
            x.start(0, 0, 0);
        }
        due("24", 24, x.processes());
        x.cancel(23);
        due("with one that is CANCELLED", 24, x.processes());
    }

    @Says(part = "Promise 19", words = "Returns how many instructions were gone through in all (also such"
            + " by which a process is stopped, or BROKEN).")
    static void done() {
        Sandglass x = new Sandglass();
        due("none", 0, x.done());
        x.addResource(0, 1);
        x.addStore(1, 0);
        int[][] last = {pause(1, 0), seize(0, 1), get(0, 1), await(0), rest(), seize(0, 2), put(0, 2),
            get(0, 2)};
        int[] states = {1, 2, 3, 4, 1, 6, 6, 6};
        x.start(script(x, seize(0, 1), await(3)), 0, 0);
        x.step();
        due("two", 2, x.done());
        int of = script(x);
        x.start(of, 0, 0);
        x.step();
        due("one without any adds none", 2, x.done());
        for (int i = 0; i < last.length; i++) {
            Sandglass y = new Sandglass();
            y.addResource(0, 1);
            y.addStore(1, 0);
            y.start(script(y, seize(0, 1), await(3)), 0, 0);
            y.start(script(y, mark(), last[i]), 0, 0);
            y.step();
            y.step();
            due("state", states[i], y.stateOf(1));
            due("with the one by which it is so", 4, y.done());
        }
        Sandglass circle = new Sandglass();
        script(circle, again(0, 20), again(0, 20));
        circle.start(0, 0, 0);
        circle.start(0, 0, 0);
        circle.run(0);
        due("40 by each event", 80, circle.done());
    }

    // ---- of processes

    @Says(part = "Promise 20", words = "Returns its state, 0 to 7.")
    static void stateOf() {
        Sandglass x = Worlds.states();
        for (int state = 0; state < 8; state++) {
            due("state", state, x.stateOf(state));
        }
    }

    @Says(part = "Promise 20", words = "Throws `IndexOutOfBoundsException` if there is no such process")
    static void processOfStateOf() {
        numbers("stateOf", 24, (x, p) -> x.stateOf(p));
    }

    @Says(part = "Promise 21", words = "Returns its PLACE.")
    static void placeOf() {
        Sandglass x = new Sandglass();
        x.addScript();
        for (int i = 0; i < 16; i++) {
            x.add(0, 6, 0, 0);
        }
        x.start(0, 0, 0);
        for (int place = 0; place <= 16; place++) {
            due("place", place, x.placeOf(0));
            x.step();
            if (place < 16) {
                x.interrupt(0);
            }
        }
        due("place behind its end", 16, x.placeOf(0));
    }

    @Says(part = "Promise 21", words = "Throws `IndexOutOfBoundsException` if there is no such process")
    static void processOfPlaceOf() {
        numbers("placeOf", 24, (x, p) -> x.placeOf(p));
    }

    @Says(part = "Promise 22", words = "Returns its RANK.")
    static void rankOf() {
        Sandglass x = new Sandglass();
        script(x, rank(9), await(0), rank(0));
        x.start(0, 0, 0);
        x.start(0, 9, 0);
        due("as it was started", 0, x.rankOf(0));
        due("as the other one was started", 9, x.rankOf(1));
        x.step();
        due("by RANK", 9, x.rankOf(0));
        x.interrupt(0);
        x.run(0);
        due("behind its end", 0, x.rankOf(0));
    }

    @Says(part = "Promise 22", words = "Throws `IndexOutOfBoundsException` if there is no such process")
    static void processOfRankOf() {
        numbers("rankOf", 24, (x, p) -> x.rankOf(p));
    }

    @Says(part = "Promise 23", words = "Returns its REST.")
    static void restOf() {
        Sandglass x = new Sandglass();
        script(x, pause(99, 0), await(0), rest());
        x.start(0, 0, 0);
        due("at first", 0, x.restOf(0));
        x.run(1);
        due("while it is WAITING", 0, x.restOf(0));
        x.interrupt(0);
        due("as it was interrupted", 98, x.restOf(0));
        x.step();
        due("it stays", 98, x.restOf(0));
        x.interrupt(0);
        due("as it was AWAITING", 98, x.restOf(0));
        x.step();
        due("behind REST", 0, x.restOf(0));
    }

    @Says(part = "Promise 23", words = "Throws `IndexOutOfBoundsException` if there is no such process")
    static void processOfRestOf() {
        numbers("restOf", 24, (x, p) -> x.restOf(p));
    }

    @Says(part = "Promise 24", words = "Returns its MARK.")
    static void markOf() {
        Sandglass x = new Sandglass();
        script(x, pause(5, 0), mark());
        x.start(0, 0, 0);
        due("started at 0", 0, x.markOf(0));
        x.run(3);
        x.start(0, 0, 0);
        due("started at 3", 3, x.markOf(1));
        x.run(2);
        due("by MARK", 5, x.markOf(0));
        due("the other one's", 3, x.markOf(1));
    }

    @Says(part = "Promise 24", words = "Throws `IndexOutOfBoundsException` if there is no such process")
    static void processOfMarkOf() {
        numbers("markOf", 24, (x, p) -> x.markOf(p));
    }

    @Says(part = "Promise 25", words = "Returns the time of its event; -1 without one.")
    static void eventOf() {
        Sandglass x = Worlds.states();
        due("of one READY", 9, x.eventOf(0));
        due("of one WAITING", 50, x.eventOf(1));
        for (int p = 2; p <= 8; p++) {
            due("of one in the state " + x.stateOf(p), -1, x.eventOf(p));
        }
        x.interrupt(4);
        due("at this TIME", 2, x.eventOf(4));
        Sandglass zero = new Sandglass();
        script(zero);
        zero.start(0, 0, 0);
        due("at the TIME 0", 0, zero.eventOf(0));
    }

    @Says(part = "Promise 25", words = "Throws `IndexOutOfBoundsException` if there is no such process")
    static void processOfEventOf() {
        numbers("eventOf", 24, (x, p) -> x.eventOf(p));
    }

    @Says(part = "Promise 26", words = "Returns how many units of it the process holds.")
    static void holds() {
        Sandglass x = new Sandglass();
        x.addResource(0, 9);
        x.addResource(0, 9);
        script(x, seize(1, 4), seize(1, 5), await(0), release(1, 8), await(0));
        x.start(0, 0, 0);
        x.start(0, 0, 0);
        due("none", 0, x.holds(0, 1));
        x.step();
        due("all", 9, x.holds(0, 1));
        due("of the other resource", 0, x.holds(0, 0));
        x.step();
        due("of one that asks only", 0, x.holds(1, 1));
        x.interrupt(0);
        x.step();
        due("one", 1, x.holds(0, 1));
        due("of the one SERVED", 4, x.holds(1, 1));
        x.cancel(0);
        due("none, being over", 0, x.holds(0, 1));
    }

    @Says(part = "Promise 26", words = "if there is no such process, or resource")
    static void processOfHolds() {
        numbers("holds 0", 24, (x, p) -> x.holds(p, 0));
        numbers("holds 5", 24, (x, p) -> x.holds(p, 5));
        refused(INDEX, AskingEdgeTest::oneOfEach, "holds(1, 0)", x -> x.holds(1, 0));
        due("the only ones", 1, oneOfEach().holds(0, 0));
    }

    @Says(part = "Promise 26", words = "if there is no such process, or resource")
    static void resourceOfHolds() {
        numbers("0 holds", 6, (x, r) -> x.holds(0, r));
        numbers("23 holds", 6, (x, r) -> x.holds(23, r));
        refused(INDEX, AskingEdgeTest::oneOfEach, "holds(0, 1)", x -> x.holds(0, 1));
    }

    /** One resource, one store, one tally, and one process, that holds a unit. */
    private static Sandglass oneOfEach() {
        Sandglass x = new Sandglass();
        x.addResource(0, 1);
        x.addStore(1, 1);
        x.addTally(1);
        script(x, seize(0, 1), await(0));
        x.start(0, 0, 0);
        x.step();
        return x;
    }

    // ---- of resources

    @Says(part = "Promise 27", words = "Returns how many of its units are free.")
    static void free() {
        Sandglass x = new Sandglass();
        x.addResource(0, 9);
        script(x, seize(0, 1), await(0));
        script(x, seize(0, 8), await(0));
        due("all", 9, x.free(0));
        x.start(0, 0, 0);
        x.step();
        due("all but one", 8, x.free(0));
        x.start(1, 0, 0);
        x.step();
        due("none", 0, x.free(0));
        x.cancel(0);
        due("one", 1, x.free(0));
    }

    @Says(part = "Promise 27", words = "Throws `IndexOutOfBoundsException` if there is no such resource")
    static void resourceOfFree() {
        numbers("free", 6, (x, r) -> x.free(r));
        refused(INDEX, AskingEdgeTest::oneOfEach, "free(1)", x -> x.free(1));
    }

    @Says(part = "Promise 28", words = "Returns how many are in its QUEUE.")
    static void queued() {
        Sandglass x = new Sandglass();
        x.addResource(0, 1);
        x.addResource(0, 1);
        script(x, seize(0, 1), await(0));
        due("nobody", 0, x.queued(0));
        for (int i = 0; i < 24; i++) {
            x.start(0, 0, 0);
            x.step();
            due("behind the one that holds", i, x.queued(0));
        }
        due("of the other resource", 0, x.queued(1));
        x.cancel(0);
        due("as one was SERVED", 22, x.queued(0));
    }

    @Says(part = "Promise 28", words = "Throws `IndexOutOfBoundsException` if there is no such resource")
    static void resourceOfQueued() {
        numbers("queued", 6, (x, r) -> x.queued(r));
        refused(INDEX, AskingEdgeTest::oneOfEach, "queued(1)", x -> x.queued(1));
    }

    private static Sandglass withQueue(int length) {
        Sandglass x = new Sandglass();
        x.addResource(0, 1);
        x.addResource(0, 1);
        script(x, seize(0, 1), await(0));
        for (int i = 0; i <= length; i++) {
            x.start(0, 0, 0);
        }
        x.run(0);
        return x;
    }

    @Says(part = "Promise 29", words = "Returns the process there.")
    static void queuedAt() {
        int[] lengths = {1, 2, 23};
        for (int length : lengths) {
            Sandglass x = withQueue(length);
            for (int place = 0; place < length; place++) {
                due("at the place " + place, place + 1, x.queuedAt(0, place));
            }
        }
    }

    @Says(part = "Promise 29", words = "if there is no such resource, or place")
    static void resourceOfQueuedAt() {
        Sandglass x = withQueue(1);
        due("the first one's", 1, x.queuedAt(0, 0));
        int[] none = {-1, 2, Integer.MIN_VALUE, Integer.MAX_VALUE};
        for (int resource : none) {
            refused(INDEX, () -> withQueue(1), "queuedAt(" + resource + ", 0)",
                    y -> y.queuedAt(resource, 0));
        }
        refused(INDEX, Sandglass::new, "queuedAt(0, 0) without any", y -> y.queuedAt(0, 0));
    }

    @Says(part = "Promise 29", words = "if there is no such resource, or place")
    static void placeInAQueue() {
        int[] lengths = {0, 1, 2, 23};
        for (int length : lengths) {
            int[] none = {-1, length, length + 1, Integer.MIN_VALUE, Integer.MAX_VALUE};
            for (int place : none) {
                refused(INDEX, () -> withQueue(length), "the place " + place + " of " + length,
                        x -> x.queuedAt(0, place));
            }
        }
        refused(INDEX, () -> withQueue(2), "the place 0 of the empty one", x -> x.queuedAt(1, 0));
        due("the last place", 2, withQueue(2).queuedAt(0, 1));
    }

    @Says(part = "Promise 30", words = "Returns BUSY.")
    static void busy() {
        Sandglass x = oneOfEach();
        due("at 0", 0, x.busy(0));
        x.run(999);
        due("at 999", 999, x.busy(0));
    }

    @Says(part = "Promise 30", words = "Throws `IndexOutOfBoundsException` if there is no such resource")
    static void resourceOfBusy() {
        numbers("busy", 6, (x, r) -> x.busy(r));
        refused(INDEX, AskingEdgeTest::oneOfEach, "busy(1)", x -> x.busy(1));
    }

    @Says(part = "Promise 31", words = "Returns QUEUEING.")
    static void queueing() {
        Sandglass x = withQueue(23);
        due("at 0", 0, x.queueing(0));
        x.run(999);
        due("at 999", 23 * 999, x.queueing(0));
        due("of an empty one", 0, x.queueing(1));
    }

    @Says(part = "Promise 31", words = "Throws `IndexOutOfBoundsException` if there is no such resource")
    static void resourceOfQueueing() {
        numbers("queueing", 6, (x, r) -> x.queueing(r));
        refused(INDEX, AskingEdgeTest::oneOfEach, "queueing(1)", x -> x.queueing(1));
    }

    @Says(part = "Promise 32", words = "Returns LONGEST.")
    static void longest() {
        due("of one that nobody came to", 0, withQueue(0).longest(1));
        due("of one that left it at once", 1, withQueue(0).longest(0));
        due("of 23", 23, withQueue(23).longest(0));
    }

    @Says(part = "Promise 32", words = "Throws `IndexOutOfBoundsException` if there is no such resource")
    static void resourceOfLongest() {
        numbers("longest", 6, (x, r) -> x.longest(r));
        refused(INDEX, AskingEdgeTest::oneOfEach, "longest(1)", x -> x.longest(1));
    }

    // ---- of stores and signals

    @Says(part = "Promise 33", words = "Returns its LEVEL.")
    static void level() {
        Sandglass x = new Sandglass();
        x.addStore(99, 99);
        x.addStore(99, 0);
        script(x, get(0, 99), put(1, 99));
        due("full", 99, x.level(0));
        due("empty", 0, x.level(1));
        x.start(0, 0, 0);
        x.step();
        due("empty", 0, x.level(0));
        due("full", 99, x.level(1));
    }

    @Says(part = "Promise 33", words = "Throws `IndexOutOfBoundsException` if there is no such store")
    static void storeOfLevel() {
        numbers("level", 4, (x, s) -> x.level(s));
        refused(INDEX, AskingEdgeTest::oneOfEach, "level(1)", x -> x.level(1));
    }

    @Says(part = "Promise 34", words = "Returns how many are BLOCKED there so.")
    static void blocked() {
        Sandglass x = new Sandglass();
        x.addStore(5, 4);
        x.addStore(5, 4);
        int put = script(x, put(0, 2));
        int get = script(x, get(0, 5));
        due("nobody with a PUT", 0, x.blocked(0, false));
        due("nobody with a GET", 0, x.blocked(0, true));
        for (int i = 0; i < 24; i++) {
            x.start(i < 10 ? put : get, 0, 0);
        }
        x.run(0);
        due("with a PUT", 10, x.blocked(0, false));
        due("with a GET", 14, x.blocked(0, true));
        due("with a PUT at the other", 0, x.blocked(1, false));
        due("with a GET at the other", 0, x.blocked(1, true));
    }

    @Says(part = "Promise 34", words = "whether those with a GET are meant, otherwise those with a PUT")
    static void whetherWithAGet() {
        Sandglass x = Worlds.states();
        due("those with a PUT", 1, x.blocked(0, false));
        due("those with a GET", 0, x.blocked(0, true));
    }

    @Says(part = "Promise 34", words = "Throws `IndexOutOfBoundsException` if there is no such store")
    static void storeOfBlocked() {
        numbers("blocked with a GET", 4, (x, s) -> x.blocked(s, true));
        numbers("blocked with a PUT", 4, (x, s) -> x.blocked(s, false));
        refused(INDEX, AskingEdgeTest::oneOfEach, "blocked(1, true)", x -> x.blocked(1, true));
    }

    @Says(part = "Promise 35", words = "Returns AREA.")
    static void area() {
        Sandglass x = oneOfEach();
        due("at 0", 0, x.area(0));
        x.run(999);
        due("at 999", 999, x.area(0));
    }

    @Says(part = "Promise 35", words = "Throws `IndexOutOfBoundsException` if there is no such store")
    static void storeOfArea() {
        numbers("area", 4, (x, s) -> x.area(s));
        refused(INDEX, AskingEdgeTest::oneOfEach, "area(1)", x -> x.area(1));
    }

    @Says(part = "Promise 36", words = "Returns how many are AWAITING it.")
    static void awaiting() {
        Sandglass x = new Sandglass();
        script(x, await(3));
        due("nobody", 0, x.awaiting(3));
        for (int i = 0; i < 24; i++) {
            x.start(0, 0, 0);
            x.step();
            due("awaiting", i + 1, x.awaiting(3));
        }
        due("awaiting another one", 0, x.awaiting(2));
        x.interrupt(0);
        due("as one was interrupted", 23, x.awaiting(3));
    }

    @Says(part = "Promise 36", words = "Throws `IndexOutOfBoundsException` if there is no such signal")
    static void signalOfAwaiting() {
        for (int signal = 0; signal < 4; signal++) {
            due("without anything there are 4", 0, new Sandglass().awaiting(signal));
        }
        int[] none = {-1, 4, Integer.MIN_VALUE, Integer.MAX_VALUE};
        for (int signal : none) {
            refused(INDEX, Worlds::full, "awaiting(" + signal + ")", x -> x.awaiting(signal));
        }
    }
}
