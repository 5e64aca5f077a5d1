import java.util.ArrayList;
import java.util.List;

/** The boundaries of the promises 42 to 44: what would be. */
public final class AheadEdgeTest extends Check {

    public static void main(String[] args) {
        tests(AheadEdgeTest.class);
        end();
    }

    // ---- Promise 42

    /** A process whose last event is the one of this number, counted from 1; one each tick. */
    private static Sandglass endingAt(int event) {
        Sandglass x = new Sandglass();
        x.addScript();
        int rounds = event - 1;
        int inner = rounds % 9 == 0 ? 9 : rounds % 10 == 0 ? 10 : rounds;
        x.add(0, 0, 1, 0);
        x.add(0, 10, 0, inner - 1);
        x.add(0, 10, 0, rounds / inner - 1);
        x.start(0, 0, 5);
        return x;
    }

    @Says(part = "Promise 42", words = "Returns the time at which it would be ENDED, BROKEN or CANCELLED,"
            + " if so many events happened at most")
    static void timeOfItsEnd() {
        due("by the event 100 of 100", 5 + 99, endingAt(100).endOf(0, 100));
        due("by the event 100, of 99", -1, endingAt(100).endOf(0, 99));
        due("by the event 101, of 100", -1, endingAt(101).endOf(0, 100));
        due("by the event 2 of 2", 6, endingAt(2).endOf(0, 2));
        due("by the event 2, of 1", -1, endingAt(2).endOf(0, 1));
        Sandglass one = new Sandglass();
        one.addResource(0, 1);
        one.start(script(one), 0, 7);
        one.start(script(one, seize(0, 2)), 0, 7);
        one.start(script(one, again(0, 20), again(0, 20)), 0, 8);
        due("ENDED by the first event", 7, one.endOf(0, 1));
        due("BROKEN by the second event", 7, one.endOf(1, 2));
        due("that of another one counts, too", -1, one.endOf(1, 1));
        due("BROKEN by 40 instructions", 8, one.endOf(2, 3));
        due("the third event is one too many", -1, one.endOf(2, 2));
    }

    @Says(part = "Promise 42", words = "the TIME, if it is")
    static void timeIfItIsOver() {
        Sandglass x = Worlds.states();
        for (int most = 1; most <= 100; most += 99) {
            for (int state = 5; state <= 7; state++) {
                due("in the state " + state, 2, x.endOf(state, most));
            }
        }
        x.run(30);
        due("the TIME, not that of its end", 32, x.endOf(5, 1));
        Sandglass none = new Sandglass();
        script(none);
        none.start(0, 0, 4);
        none.step();
        due("without any event left", 4, none.endOf(0, 100));
    }

    @Says(part = "Promise 42", words = "-1 otherwise.")
    static void neverOver() {
        Sandglass x = Worlds.states();
        for (int state = 0; state <= 4; state++) {
            due("in the state " + state, -1, x.endOf(state, 100));
        }
        x.cancel(0);
        x.cancel(1);
        due("without any event", -1, x.endOf(4, 100));
    }

    @Says(part = "Promise 42", words = "how many events at most")
    static void beyondTheProcessesThatAreThere() {
        Sandglass x = new Sandglass();
        x.addResource(0, 1);
        int child = script(x, seize(0, 1), pause(10, 0));
        int parent = script(x, spawn(child, 0), seize(0, 1), pause(5, 0));
        x.start(parent, 0, 0);
        x.start(child, 0, 0);
        due("the parent", 5, x.endOf(0, 100));
        due("the other one, served first of both", 15, x.endOf(1, 100));
        due("processes", 2, x.processes());
        x.run(999);
        due("the one that was spawned", 25 + 974, x.endOf(2, 1));
    }

    @Says(part = "Promise 42", words = "if so many events happened at most")
    static void endAsItComes() {
        int[] mosts = {1, 5, 30, 99, 100};
        for (int steps = 0; steps <= 40; steps += 4) {
            Sandglass ahead = fullBehind(steps);
            for (int most : mosts) {
                int[] ends = endsThatCome(fullBehind(steps), most);
                for (int p = 0; p < 24; p++) {
                    due("endOf(" + p + ", " + most + ") behind " + steps, ends[p], ahead.endOf(p, most));
                }
            }
        }
    }

    @Says(part = "Promise 42", words = "at which it would be ENDED, BROKEN or CANCELLED")
    static void endFromWhatIsHeldNow() {
        Sandglass resting = new Sandglass();
        script(resting, pause(30, 0), rest());
        resting.start(0, 0, 0);
        resting.run(8);
        resting.interrupt(0);
        due("from the REST that it has", 8 + 22, resting.endOf(0, 9));
        Sandglass thrown = new Sandglass();
        thrown.addResource(2, 1);
        script(thrown, seize(0, 1), pause(30, 0));
        thrown.start(0, 9, 0);
        thrown.start(0, 3, 5);
        due("to be thrown out", 60, thrown.endOf(0, 9));
        thrown.run(6);
        due("as it was thrown out", 60, thrown.endOf(0, 9));
        thrown.cancel(1);
        due("as it was SERVED", 6 + 25, thrown.endOf(0, 9));
        Sandglass two = new Sandglass();
        two.addResource(2, 2);
        script(two, seize(0, 1), pause(30, 0));
        two.start(0, 9, 1);
        two.start(0, 9, 0);
        two.run(1);
        two.start(0, 3, 5);
        due("not the one that got units last", 30, two.endOf(1, 9));
        due("the one that got units last, SERVED at 30", 30 + 25, two.endOf(0, 9));
        Sandglass counting = new Sandglass();
        script(counting, pause(1, 0), again(0, 3), again(0, 3));
        counting.start(0, 0, 0);
        counting.run(9);
        due("from its counters as they are", 16, counting.endOf(0, 100));
    }

    /** When each process is over, as so many events happen one by one; -1 if it is not. */
    private static int[] endsThatCome(Sandglass x, int most) {
        int[] ends = new int[24];
        for (int p = 0; p < 24; p++) {
            ends[p] = x.stateOf(p) >= 5 ? x.time() : -1;
        }
        for (int i = 0; i < most; i++) {
            String process = Later.answer(x::step);
            if (process.equals(STATE)) {
                return ends;
            }
            int p = Integer.parseInt(process);
            ends[p] = x.stateOf(p) >= 5 ? x.time() : -1;
        }
        return ends;
    }

    /** As many of all as there can be, some events later, with an interrupt now and then. */
    private static Sandglass fullBehind(int steps) {
        Sandglass x = Worlds.full();
        for (int i = 0; i < steps; i++) {
            Later.answer(x::step);
            if (i % 8 == 7) {
                int process = (i * 5) % 24;
                Later.answer(() -> x.interrupt(process));
            }
        }
        return x;
    }

    private static Sandglass oneProcess() {
        Sandglass x = new Sandglass();
        script(x, pause(3, 0));
        x.start(0, 0, 0);
        return x;
    }

    @Says(part = "Promise 42", words = "Throws `IndexOutOfBoundsException` if there is no such process")
    static void processOfEndOf() {
        due("the only one", 3, oneProcess().endOf(0, 5));
        refused(INDEX, Sandglass::new, "endOf(0, 5) of none", x -> x.endOf(0, 5));
        int[] none = {-1, 1, 24, Integer.MIN_VALUE, Integer.MAX_VALUE};
        for (int process : none) {
            refused(INDEX, AheadEdgeTest::oneProcess, "endOf(" + process + ", 5)",
                    x -> x.endOf(process, 5));
        }
        due("the last of 24", 1, Later.answer(() -> Worlds.full().endOf(23, 1)).startsWith("I") ? 0 : 1);
        refused(INDEX, Worlds::full, "endOf(24, 5)", x -> x.endOf(24, 5));
    }

    @Says(part = "Promise 42", words = "if most is not 1 to 100")
    static void mostOfEndOf() {
        due("most 1", -1, oneProcess().endOf(0, 1));
        due("most 100", 3, oneProcess().endOf(0, 100));
        int[] none = {0, 101, -1, Integer.MIN_VALUE, Integer.MAX_VALUE};
        for (int most : none) {
            refused(ARGUMENT, AheadEdgeTest::oneProcess, "most " + most, x -> x.endOf(0, most));
            refused(ARGUMENT, Worlds::states, "most " + most + " of one that is over",
                    x -> x.endOf(5, most));
        }
    }

    // ---- Promise 43

    @Says(part = "Promise 43", words = "Returns what busy() would tell behind run(ticks).")
    static void busyToBe() {
        int[] ticks = {0, 1, 4, 5, 6, 14, 15, 16, 999};
        int[] busy = {0, 0, 0, 0, 2, 18, 20, 20, 20};
        for (int i = 0; i < ticks.length; i++) {
            Sandglass x = busyFrom5To15();
            due("in " + ticks[i] + " ticks", busy[i], x.wouldBeBusy(1, ticks[i]));
            due("of the other resource", 0, x.wouldBeBusy(0, ticks[i]));
            due("busy", 0, x.busy(1));
            x.run(ticks[i]);
            due("busy as it comes", busy[i], x.busy(1));
            due("busy then", busy[i], x.wouldBeBusy(1, 0));
        }
    }

    @Says(part = "Promise 43", words = "what busy() would tell behind run(ticks)")
    static void busyAsItComes() {
        int[] ticks = {0, 1, 3, 9, 20, 50, 999};
        for (int steps = 0; steps <= 40; steps += 4) {
            Sandglass ahead = fullBehind(steps);
            for (int t : ticks) {
                Sandglass comes = fullBehind(steps);
                comes.run(t);
                for (int r = 0; r < 6; r++) {
                    due("of " + r + " in " + t + " ticks behind " + steps, comes.busy(r),
                            ahead.wouldBeBusy(r, t));
                }
            }
        }
    }

    /** Two units of the resource 1 are held from the time 5 to 15. */
    private static Sandglass busyFrom5To15() {
        Sandglass x = new Sandglass();
        x.addResource(0, 2);
        x.addResource(0, 3);
        script(x, seize(1, 2), pause(10, 0));
        x.start(0, 0, 5);
        return x;
    }

    @Says(part = "Promise 43", words = "behind run(ticks)")
    static void busyBehindFourHundredEvents() {
        for (int extra = 19; extra <= 22; extra++) {
            Sandglass x = new Sandglass();
            x.addResource(0, 2);
            script(x, pause(0, 0), again(0, 17), again(0, 20));
            int holder = script(x, seize(0, 2), await(0));
            script(x);
            x.start(holder, 0, 0);
            x.start(0, 0, 5);
            for (int i = 0; i < extra; i++) {
                x.start(2, 0, 5);
            }
            boolean toTheEnd = 1 + 379 + extra <= 400;
            due("with " + (380 + extra) + " events", toTheEnd ? 2 * 999 : 2 * 5,
                    x.wouldBeBusy(0, 999));
            x.run(999);
            due("as it comes", toTheEnd ? 2 * 999 : 2 * 5, x.busy(0));
        }
    }

    @Says(part = "Promise 43", words = "Throws `IndexOutOfBoundsException` if there is no such resource")
    static void resourceToBeBusy() {
        due("the last of two", 20, busyFrom5To15().wouldBeBusy(1, 20));
        refused(INDEX, Sandglass::new, "wouldBeBusy(0, 5) of none", x -> x.wouldBeBusy(0, 5));
        int[] none = {-1, 2, 6, Integer.MIN_VALUE, Integer.MAX_VALUE};
        for (int resource : none) {
            refused(INDEX, AheadEdgeTest::busyFrom5To15, "wouldBeBusy(" + resource + ", 5)",
                    x -> x.wouldBeBusy(resource, 5));
        }
        refused(INDEX, Worlds::full, "wouldBeBusy(6, 5)", x -> x.wouldBeBusy(6, 5));
    }

    @Says(part = "Promise 43", words = "if ticks is not 0 to 999")
    static void ticksToBeBusy() {
        due("0 ticks", 0, busyFrom5To15().wouldBeBusy(1, 0));
        due("999 ticks", 20, busyFrom5To15().wouldBeBusy(1, 999));
        int[] none = {-1, 1000, Integer.MIN_VALUE, Integer.MAX_VALUE};
        for (int ticks : none) {
            refused(ARGUMENT, AheadEdgeTest::busyFrom5To15, ticks + " ticks",
                    x -> x.wouldBeBusy(1, ticks));
        }
    }

    // ---- both change nothing

    @Says(part = "Terms", words = "---- what would be (nothing is changed).")
    static void nothingIsChanged() {
        Sandglass x = Worlds.full();
        List<Integer> told = new ArrayList<>();
        for (int p = 0; p < 24; p++) {
            x.endOf(p, 1 + 4 * p);
        }
        for (int r = 0; r < 6; r++) {
            told.add(x.wouldBeBusy(r, 100));
        }
        for (int r = 0; r < 6; r++) {
            due("told again", told.get(r), x.wouldBeBusy(r, 100));
        }
        x.digest();
        List<String> want = Later.of(Worlds.full());
        List<String> got = Later.of(x);
        for (int i = 0; i < want.size(); i++) {
            dueText("the call " + i + " later", want.get(i), got.get(i));
        }
    }

    // ---- Promise 44

    private static long mixed(long... told) {
        long d = 58032;
        for (long t : told) {
            d = d * 31 + t;
        }
        return d;
    }

    @Says(part = "Promise 44", words = "A number d starts with 58032; for each of the following numbers x,"
            + " d becomes d * 31 + x")
    static void digestOfNothing() {
        due("of a new object", mixed(0, 0, 0, -1, 0, 0, 0, 0, 0, 0), new Sandglass().digest());
        Sandglass x = new Sandglass();
        x.setLuck(9999);
        x.run(999);
        due("of time and luck", mixed(999, 9999, 0, -1, 0, 0, 0, 0, 0, 0), x.digest());
    }

    @Says(part = "Promise 44", words = "which wraps around as a 64-bit integer")
    static void digestWrapsAround() {
        Sandglass x = Worlds.states();
        boolean negative = false;
        boolean positive = false;
        for (int i = 0; i < 50; i++) {
            x.run(1);
            negative |= x.digest() < 0;
            positive |= x.digest() > Integer.MAX_VALUE;
        }
        due("it is below 0 at times", 1, negative ? 1 : 0);
        due("and far above at times", 1, positive ? 1 : 0);
    }

    @Says(part = "Promise 44", words = "for each process stateOf(), placeOf(), rankOf(), restOf(), markOf(),"
            + " eventOf(), and holds() of each resource")
    static void digestOfProcesses() {
        Sandglass x = new Sandglass();
        due("without any", mixed(0, 0, 0, -1, 0, 0, 0, 0, 0, 0), x.digest());
        x.addScript();
        due("a script is not told", mixed(0, 0, 0, -1, 0, 0, 0, 0, 0, 0), x.digest());
        x.run(4);
        x.start(0, 7, 9);
        due("without a resource", mixed(4, 0, 1, 13, 1, 0, 0, 0, 7, 0, 4, 13, 0, 0, 0, 0), x.digest());
    }

    @Says(part = "Promise 44", words = "for each resource free(), queued(), each queuedAt(), busy(),"
            + " queueing(), longest()")
    static void digestOfResources() {
        Sandglass x = new Sandglass();
        x.addResource(0, 3);
        x.addResource(1, 5);
        due("without a process", mixed(0, 0, 0, -1, 0, 0, 3, 0, 0, 0, 0, 5, 0, 0, 0, 0, 0, 0, 0, 0),
                x.digest());
        script(x, seize(0, 2), await(0));
        for (int i = 0; i < 3; i++) {
            x.start(0, 3 - i, 0);
        }
        x.run(4);
        due("with two that are QUEUED", mixed(4, 0, 0, -1, 3, 4,
                4, 2, 3, 0, 0, -1, 2, 0,
                2, 1, 2, 0, 0, -1, 0, 0,
                2, 1, 1, 0, 0, -1, 0, 0,
                1, 2, 1, 2, 8, 8, 2,
                5, 0, 0, 0, 0,
                1, 0, 0, 0), x.digest());
    }

    @Says(part = "Promise 44", words = "for each store level(), blocked() with a PUT, then with a GET,"
            + " area(); awaiting() of each signal")
    static void digestOfStoresAndSignals() {
        Sandglass x = new Sandglass();
        x.addStore(5, 4);
        x.addStore(9, 7);
        script(x, put(0, 2));
        script(x, get(0, 5));
        script(x, await(3));
        for (int i = 0; i < 4; i++) {
            x.start(Math.min(i, 2), 1, 0);
        }
        x.start(0, 1, 0);
        x.run(2);
        due("with two PUTs and one GET", mixed(2, 0, 0, -1, 5, 5,
                3, 1, 1, 0, 0, -1,
                3, 1, 1, 0, 0, -1,
                4, 1, 1, 0, 0, -1,
                4, 1, 1, 0, 0, -1,
                3, 1, 1, 0, 0, -1,
                4, 2, 1, 8, 7, 0, 0, 14,
                0, 0, 0, 2), x.digest());
    }

    @Says(part = "Promise 44", words = "for each tally tallied(), ofTally() of 0 to 3, batches(), each"
            + " sumOf().")
    static void digestOfTallies() {
        Sandglass x = new Sandglass();
        x.addTally(2);
        x.addTally(3);
        script(x, pause(3, 0), tally(0), again(0, 4));
        x.start(0, 1, 0);
        x.run(15);
        due("with two full batches and a half one", mixed(15, 0, 0, -1, 1, 15,
                5, 3, 1, 0, 0, -1,
                0, 0, 0, 0,
                5, 45, 3, 15, 15, 2, 9, 21,
                0, 0, 0, 0, 0, 0), x.digest());
    }

    @Says(part = "Promise 44", words = "Returns d.")
    static void digestAgain() {
        Sandglass x = Worlds.full();
        due("nothing is changed by it", x.digest(), x.digest());
        due("of another one made alike", Worlds.full().digest(), x.digest());
    }
}
