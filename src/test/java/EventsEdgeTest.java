/** The boundaries of the Terms 2 and of the promises 9 to 13: events, processes and time. */
public final class EventsEdgeTest extends Check {

    public static void main(String[] args) {
        tests(EventsEdgeTest.class);
        end();
    }

    // ---- Terms 2: the order of events

    @Says(part = "Terms 2", words = "An event is that a process goes on at some time.")
    static void goesOnAtItsTime() {
        Sandglass x = new Sandglass();
        script(x, rank(7));
        x.start(0, 3, 5);
        x.run(4);
        due("rank ahead of it", 3, x.rankOf(0));
        x.run(1);
        due("rank behind it", 7, x.rankOf(0));
    }

    @Says(part = "Terms 2", words = "Events happen by their times")
    static void byTheirTimes() {
        Sandglass x = new Sandglass();
        script(x);
        x.start(0, 0, 5);
        x.start(0, 0, 3);
        x.start(0, 0, 4);
        due("that at 3", 1, x.step());
        due("that at 4", 2, x.step());
        due("that at 5", 0, x.step());
    }

    @Says(part = "Terms 2", words = "those at the same time in the order in which they were made")
    static void asTheyWereMade() {
        Sandglass x = new Sandglass();
        script(x, pause(0, 0));
        x.start(0, 9, 5);
        x.run(2);
        x.start(0, 0, 3);
        x.start(0, 5, 3);
        due("made first", 0, x.step());
        due("made next", 1, x.step());
        due("made third", 2, x.step());
        due("made anew, first", 0, x.step());
        due("made anew, next", 1, x.step());
        due("made anew, third", 2, x.step());
        due("all at", 5, x.time());
    }

    @Says(part = "Terms 2", words = "A process that is READY or WAITING has one event, others have none.")
    static void whoHasAnEvent() {
        Sandglass x = Worlds.states();
        int[] times = {9, 50, -1, -1, -1, -1, -1, -1};
        for (int i = 0; i < times.length; i++) {
            due("event of the state " + i, times[i], x.eventOf(i));
        }
        due("events", 2, x.events());
    }

    @Says(part = "Terms 2", words = "A process that is started with a delay is READY,"
            + " and its event is at the TIME + the delay.")
    static void eventOfAStart() {
        Sandglass x = new Sandglass();
        script(x);
        x.run(7);
        x.start(0, 0, 0);
        x.start(0, 0, 1);
        x.start(0, 0, 999);
        int[] times = {7, 8, 1006};
        for (int i = 0; i < times.length; i++) {
            due("state", 0, x.stateOf(i));
            due("event", times[i], x.eventOf(i));
        }
    }

    // ---- Terms 2: how an event goes

    @Says(part = "Terms 2", words = "As an event happens, TIME is that of the event")
    static void timeOfTheEvent() {
        Sandglass x = new Sandglass();
        x.addTally(1);
        script(x, tally(0));
        x.start(0, 0, 8);
        x.run(6);
        x.step();
        due("time", 8, x.time());
        due("time within the event", 8, x.ofTally(0, 3));
    }

    @Says(part = "Terms 2", words = "the process goes through instructions, beginning with that at its"
            + " PLACE: PLACE becomes 1 more, then the instruction is done (which can change PLACE again)")
    static void placeChangesFirst() {
        Sandglass x = new Sandglass();
        x.addStore(9, 0);
        script(x, mark(), again(3, 1), rank(9), await(0));
        script(x, skip(0, 1), rank(9), await(0));
        x.start(0, 5, 0);
        x.start(1, 5, 0);
        x.run(0);
        due("place behind AGAIN and AWAIT", 4, x.placeOf(0));
        due("AGAIN passed the RANK by", 5, x.rankOf(0));
        due("place behind SKIP and AWAIT", 3, x.placeOf(1));
        due("SKIP passed the RANK by", 5, x.rankOf(1));
    }

    @Says(part = "Terms 2", words = "and so on, until an instruction stops it")
    static void untilOneStopsIt() {
        Sandglass x = new Sandglass();
        script(x, rank(1), rank(2), await(0), rank(3));
        x.start(0, 5, 0);
        x.step();
        due("rank", 2, x.rankOf(0));
        due("place behind the one that stops it", 3, x.placeOf(0));
        due("done", 3, x.done());
        x.interrupt(0);
        x.step();
        due("goes on with that at its PLACE", 3, x.rankOf(0));
        due("done", 4, x.done());
    }

    @Says(part = "Terms 2", words = "If there is none at its PLACE, it has ENDED.")
    static void noneAtItsPlace() {
        Sandglass x = new Sandglass();
        script(x);
        script(x, mark());
        script(x, mark(), again(15, 1));
        script(x, mark(), again(1, 0));
        int[] places = {0, 1, 15, 2};
        int[] done = {0, 1, 2, 2};
        for (int i = 0; i < 4; i++) {
            int before = x.done();
            x.start(i, 0, 0);
            x.step();
            due("state", 5, x.stateOf(i));
            due("place", places[i], x.placeOf(i));
            due("done", done[i], x.done() - before);
        }
    }

    /** A script that goes through so many instructions by its first event, then meets what comes. */
    private static Sandglass through(int count, int[]... comes) {
        Sandglass x = new Sandglass();
        x.addResource(0, 1);
        x.addResource(0, 1);
        x.addScript();
        int marks = count % 2 == 0 ? 2 : 1;
        for (int i = 0; i < marks; i++) {
            x.add(0, 8, 0, 0);
        }
        int rounds = (count - marks) / 2;
        x.add(0, 8, 0, 0);
        x.add(0, 10, marks, rounds - 1);
        for (int[] c : comes) {
            x.add(0, c[0], c[1], c[2]);
        }
        x.start(0, 0, 3);
        return x;
    }

    @Says(part = "Terms 2", words = "If it has gone through 40 instructions by one event, none of which"
            + " stopped it, it is BROKEN")
    static void fortyInstructions() {
        Sandglass atForty = through(40, mark(), await(0));
        atForty.step();
        due("40 and more to come: BROKEN", 6, atForty.stateOf(0));
        due("done", 40, atForty.done());
        due("event", -1, atForty.eventOf(0));
        Sandglass atThirtyNine = through(39);
        atThirtyNine.step();
        due("39 and none more: ENDED", 5, atThirtyNine.stateOf(0));
        due("done", 39, atThirtyNine.done());
        Sandglass endless = new Sandglass();
        script(endless, again(0, 20), again(0, 20));
        endless.start(0, 0, 0);
        endless.step();
        due("in a circle: BROKEN", 6, endless.stateOf(0));
        due("done", 40, endless.done());
    }

    @Says(part = "Terms 2", words = "none of which stopped it")
    static void theFortiethStops() {
        int[][] stopping = {pause(5, 0), await(0), rest(), seize(0, 1)};
        int[] states = {1, 4, 1, 2};
        for (int i = 0; i < stopping.length; i++) {
            Sandglass x = through(39, stopping[i], await(1));
            int holder = script(x, seize(0, 1), await(3));
            x.start(holder, 0, 0);
            x.run(2);
            x.step();
            due("state, as the 40th stops it", states[i], x.stateOf(0));
            due("done", 42, x.done());
        }
        Sandglass got = through(39, seize(0, 1), await(1));
        got.step();
        due("as the 40th does not stop it", 6, got.stateOf(0));
        due("and then its units are free", 1, got.free(0));
        Sandglass late = through(40, pause(5, 0));
        late.step();
        due("a 41st is not done", 6, late.stateOf(0));
    }

    @Says(part = "Terms 2", words = "by one event")
    static void fortyByEachEvent() {
        Sandglass x = through(39, pause(0, 0), mark(), await(0));
        x.run(3);
        due("the next event counts from 0", 4, x.stateOf(0));
        due("done", 42, x.done());
    }

    @Says(part = "Terms 2", words = "(also if there is none at its PLACE then)")
    static void fortyAndNoneLeft() {
        Sandglass x = through(40);
        x.step();
        due("BROKEN, not ENDED", 6, x.stateOf(0));
        due("place", 4, x.placeOf(0));
        due("done", 40, x.done());
    }

    @Says(part = "Terms 2", words = "As a process is ENDED, BROKEN or CANCELLED, its event is gone")
    static void eventIsGone() {
        Sandglass x = new Sandglass();
        x.addResource(0, 1);
        script(x, pause(5, 0));
        script(x, pause(5, 0), seize(0, 2));
        x.start(0, 0, 0);
        x.start(1, 0, 0);
        x.start(0, 0, 0);
        x.start(0, 0, 9);
        x.run(2);
        x.cancel(2);
        x.cancel(3);
        due("events as two are CANCELLED", 2, x.events());
        due("event of one that was WAITING", -1, x.eventOf(2));
        due("event of one that was READY", -1, x.eventOf(3));
        x.run(3);
        due("event of one ENDED", -1, x.eventOf(0));
        due("event of one BROKEN", -1, x.eventOf(1));
        due("nextTime", -1, x.nextTime());
    }

    @Says(part = "Terms 2", words = "it leaves what it is in, and then all units that it holds are"
            + " released")
    static void leavesThenReleases() {
        Sandglass x = new Sandglass();
        x.addResource(0, 1);
        x.addResource(0, 2);
        int both = script(x, seize(0, 1), seize(1, 2), await(0));
        int holder = script(x, seize(1, 1), await(0));
        int zero = script(x, seize(0, 1), await(0));
        x.start(holder, 0, 0);
        x.start(both, 0, 0);
        x.start(zero, 0, 0);
        x.start(holder, 0, 0);
        x.run(0);
        due("state", 2, x.stateOf(3));
        x.cancel(1);
        due("queued at 1", 0, x.queued(1));
        due("queued at 0", 0, x.queued(0));
        due("what it was in is served first", 3, x.step());
        due("then what it held", 2, x.step());
    }

    @Says(part = "Terms 2", words = "all units that it holds are released, resource by resource.")
    static void resourceByResource() {
        for (int how = 5; how <= 7; how++) {
            Sandglass x = new Sandglass();
            x.addResource(0, 1);
            x.addResource(0, 2);
            x.addResource(0, 3);
            int all = script(x, seize(2, 3), seize(1, 2), seize(0, 1), pause(5, 0), seize(0, 2));
            int ender = script(x, seize(2, 3), seize(1, 2), seize(0, 1), pause(5, 0));
            x.start(how == 6 ? all : ender, 0, 0);
            for (int r = 2; r >= 0; r--) {
                x.start(script(x, seize(r, 1), await(0)), 0, 0);
            }
            x.run(4);
            if (how == 7) {
                x.cancel(0);
            } else {
                due("step", 0, x.step());
            }
            due("state", how, x.stateOf(0));
            due("served at 0", 3, x.step());
            due("served at 1", 2, x.step());
            due("served at 2", 1, x.step());
            due("it holds none", 0, x.holds(0, 0) + x.holds(0, 1) + x.holds(0, 2));
        }
    }

    // ---- Promise 9

    private static Sandglass oneScript() {
        Sandglass x = new Sandglass();
        script(x, pause(5, 0), await(0));
        return x;
    }

    @Says(part = "Promise 9", words = "Starts a process.")
    static void startsOne() {
        Sandglass x = oneScript();
        x.run(6);
        x.start(0, 4, 2);
        due("processes", 1, x.processes());
        due("state", 0, x.stateOf(0));
        due("rank", 4, x.rankOf(0));
        due("place", 0, x.placeOf(0));
        due("mark", 6, x.markOf(0));
        due("rest", 0, x.restOf(0));
        due("event", 8, x.eventOf(0));
        due("done", 0, x.done());
    }

    @Says(part = "Promise 9", words = "Returns its number.")
    static void numberOfAStart() {
        Sandglass x = oneScript();
        due("the first", 0, x.start(0, 0, 9));
        due("the second", 1, x.start(0, 0, 0));
        x.cancel(1);
        due("a number is not used again", 2, x.start(0, 0, 0));
    }

    @Says(part = "Promise 9", words = "Throws `IndexOutOfBoundsException` if there is no such script")
    static void scriptOfAStart() {
        due("the only one", 0, oneScript().start(0, 0, 0));
        refused(INDEX, Sandglass::new, "start(0, 0, 0) without any", x -> x.start(0, 0, 0));
        int[] none = {-1, 1, 8, Integer.MIN_VALUE, Integer.MAX_VALUE};
        for (int script : none) {
            refused(INDEX, EventsEdgeTest::oneScript, "script " + script,
                    x -> x.start(script, 0, 0));
        }
    }

    @Says(part = "Promise 9", words = "if rank is not 0 to 9")
    static void rankOfAStart() {
        Sandglass x = oneScript();
        due("rank 0", 0, x.start(0, 0, 5));
        due("rank 9", 1, x.start(0, 9, 5));
        due("rank", 0, x.rankOf(0));
        due("rank", 9, x.rankOf(1));
        int[] none = {-1, 10, Integer.MIN_VALUE, Integer.MAX_VALUE};
        for (int rank : none) {
            refused(ARGUMENT, EventsEdgeTest::oneScript, "rank " + rank, y -> y.start(0, rank, 0));
        }
    }

    @Says(part = "Promise 9", words = "delay is not 0 to 999")
    static void delayOfAStart() {
        Sandglass x = oneScript();
        due("delay 0", 0, x.start(0, 5, 0));
        due("delay 999", 1, x.start(0, 5, 999));
        due("event", 0, x.eventOf(0));
        due("event", 999, x.eventOf(1));
        int[] none = {-1, 1000, Integer.MIN_VALUE, Integer.MAX_VALUE};
        for (int delay : none) {
            refused(ARGUMENT, EventsEdgeTest::oneScript, "delay " + delay,
                    y -> y.start(0, 0, delay));
        }
    }

    private static Sandglass withProcesses(int count) {
        Sandglass x = oneScript();
        for (int i = 0; i < count; i++) {
            x.start(0, i % 10, i % 3);
        }
        return x;
    }

    @Says(part = "Promise 9", words = "Throws `IllegalStateException` if there are 24")
    static void twentyFifthStart() {
        due("a 24th", 23, withProcesses(23).start(0, 0, 0));
        refused(STATE, () -> withProcesses(24), "a 25th", x -> x.start(0, 0, 0));
        Sandglass over = withProcesses(24);
        for (int i = 0; i < 24; i++) {
            over.cancel(i);
        }
        dueThrow(STATE, over, "a 25th, though all are CANCELLED", () -> over.start(0, 0, 0));
    }

    // ---- Promise 10

    @Says(part = "Promise 10", words = "Lets the next event happen.")
    static void onlyTheNextEvent() {
        Sandglass x = withProcesses(2);
        x.step();
        due("state of the one that went on", 1, x.stateOf(0));
        due("state of the other", 0, x.stateOf(1));
        due("time", 0, x.time());
        x.step();
        due("time", 1, x.time());
        due("state of the other", 1, x.stateOf(1));
    }

    @Says(part = "Promise 10", words = "Returns the process that went on.")
    static void stepReturnsTheProcess() {
        Sandglass x = new Sandglass();
        x.addResource(0, 1);
        script(x);
        script(x, seize(0, 2));
        script(x, spawn(0, 0), await(0));
        x.start(2, 0, 2);
        x.start(1, 0, 1);
        x.start(0, 0, 1);
        due("one that was BROKEN in it", 1, x.step());
        due("one that has ENDED in it", 2, x.step());
        due("one that spawned another", 0, x.step());
        due("the one spawned", 3, x.step());
    }

    @Says(part = "Promise 10", words = "Throws `IllegalStateException` if there is no event")
    static void stepWithoutAnEvent() {
        refused(STATE, Sandglass::new, "step of an empty object", Sandglass::step);
        refused(STATE, EventsEdgeTest::noEventLeft, "step as none is left", Sandglass::step);
        Sandglass x = withProcesses(1);
        due("the only event", 0, x.step());
    }

    /** Processes that are QUEUED, BLOCKED, AWAITING, ENDED, BROKEN and CANCELLED, and no event. */
    private static Sandglass noEventLeft() {
        Sandglass x = Worlds.states();
        x.cancel(0);
        x.cancel(1);
        return x;
    }

    // ---- Promise 11

    @Says(part = "Promise 11", words = "Lets events happen whose time is not above the TIME as it is"
            + " called + ticks")
    static void eventsOfARun() {
        Sandglass x = new Sandglass();
        script(x, pause(3, 0), pause(1, 0), await(0));
        x.run(10);
        x.start(0, 0, 0);
        due("those at 10 and 13", 2, x.run(3));
        due("time", 13, x.time());
        due("that at 14 is not", 14, x.nextTime());
        due("no tick more", 0, x.run(0));
        due("that at 14", 1, x.run(1));
    }

    @Says(part = "Promise 11", words = "If there are no more such events, TIME becomes that time.")
    static void timeBehindARun() {
        Sandglass x = new Sandglass();
        due("without any event", 0, x.run(7));
        due("time", 7, x.time());
        script(x, pause(3, 0), pause(9, 0));
        x.start(0, 0, 1);
        due("events at 8 and 11", 2, x.run(5));
        due("time, above that of the last event", 12, x.time());
        due("ahead of that at 20", 0, x.run(7));
        due("time, below that of the next event", 19, x.time());
        due("0 ticks", 0, x.run(0));
        due("time", 19, x.time());
    }

    /** So many events at the time 5, and one at 9. */
    private static Sandglass withEvents(int count) {
        Sandglass x = new Sandglass();
        script(x, pause(0, 0), again(0, 17), again(0, 20));
        script(x);
        x.start(0, 0, 5);
        for (int i = 379; i < count; i++) {
            x.start(1, 0, 5);
        }
        x.start(1, 0, 9);
        return x;
    }

    @Says(part = "Promise 11", words = "but at most 400")
    static void atMostFourHundred() {
        Sandglass one = withEvents(399);
        due("399 of 399", 399, one.run(8));
        due("time", 8, one.time());
        Sandglass two = withEvents(399);
        due("400 of 400, the last one at the last tick", 400, two.run(4 + 5));
        due("time", 9, two.time());
        Sandglass three = withEvents(400);
        due("400 of 400", 400, three.run(8));
        due("there is no more such event: time", 8, three.time());
        due("the one above it", 9, three.nextTime());
        Sandglass four = withEvents(400);
        due("400 of 401, the last one at the last tick", 400, four.run(9));
        due("there is one more: time", 5, four.time());
        due("events", 1, four.events());
        due("the one left", 1, four.run(4));
        Sandglass five = withEvents(401);
        due("400 of 401", 400, five.run(8));
        due("time", 5, five.time());
        due("nextTime", 5, five.nextTime());
        due("the one left", 1, five.run(0));
        due("time", 5, five.time());
    }

    @Says(part = "Promise 11", words = "Returns how many events happened.")
    static void countOfARun() {
        Sandglass x = withProcesses(3);
        due("0 ticks: that at 0", 1, x.run(0));
        due("those at 1 and 2", 2, x.run(4));
        due("those at 5, 6 and 7", 3, x.run(999));
        due("none left", 0, x.run(999));
    }

    @Says(part = "Promise 11", words = "if ticks is not 0 to 999")
    static void ticksOfARun() {
        due("0 ticks", 1, withProcesses(1).run(0));
        Sandglass x = new Sandglass();
        due("999 ticks", 0, x.run(999));
        due("time", 999, x.time());
        int[] none = {-1, 1000, Integer.MIN_VALUE, Integer.MAX_VALUE};
        for (int ticks : none) {
            refused(ARGUMENT, Sandglass::new, ticks + " ticks", y -> y.run(ticks));
            refused(ARGUMENT, Worlds::full, ticks + " ticks with events", y -> y.run(ticks));
        }
    }

    // ---- Promise 12

    @Says(part = "Promise 12", words = "Interrupts a process that is WAITING, QUEUED, BLOCKED or AWAITING")
    static void statesToInterrupt() {
        int[] rests = {0, 48, 0, 0, 0};
        for (int state = 1; state <= 4; state++) {
            Sandglass x = Worlds.states();
            due("interrupt in the state " + state, rests[state], x.interrupt(state));
            due("it is READY", 0, x.stateOf(state));
            due("event", 2, x.eventOf(state));
        }
    }

    @Says(part = "Promise 12", words = "Throws `IllegalStateException` if it is in another state")
    static void statesNotToInterrupt() {
        int[] others = {0, 5, 6, 7};
        for (int state : others) {
            refused(STATE, Worlds::states, "interrupt in the state " + state,
                    x -> x.interrupt(state));
        }
    }

    @Says(part = "Promise 12", words = "Throws `IndexOutOfBoundsException` if there is no such process")
    static void processToInterrupt() {
        due("the last one", 0, Worlds.states().interrupt(8));
        refused(INDEX, Sandglass::new, "interrupt(0) of none", x -> x.interrupt(0));
        int[] none = {-1, 9, 24, Integer.MIN_VALUE, Integer.MAX_VALUE};
        for (int process : none) {
            refused(INDEX, Worlds::states, "interrupt(" + process + ")", x -> x.interrupt(process));
        }
    }

    @Says(part = "Promise 12", words = "its event is gone")
    static void interruptedEvent() {
        Sandglass x = Worlds.states();
        x.interrupt(1);
        due("events", 2, x.events());
        due("nextTime", 2, x.nextTime());
        due("it goes on", 1, x.step());
        due("state", 4, x.stateOf(1));
        due("events, without that at 50", 1, x.events());
    }

    @Says(part = "Promise 12", words = "or it leaves what it is in, without having got, put or taken"
            + " out anything")
    static void leavesWithNothing() {
        Sandglass x = new Sandglass();
        x.addResource(0, 2);
        x.addStore(5, 3);
        script(x, seize(0, 2), await(0));
        script(x, put(0, 3), await(0));
        script(x, get(0, 4), await(0));
        script(x, seize(0, 1), await(1));
        x.start(3, 0, 0);
        x.start(0, 0, 0);
        x.start(1, 0, 0);
        x.start(2, 0, 0);
        x.run(0);
        x.interrupt(1);
        due("queued", 0, x.queued(0));
        due("free", 1, x.free(0));
        due("holds", 0, x.holds(1, 0));
        x.interrupt(2);
        due("blocked with a PUT", 0, x.blocked(0, false));
        due("level", 3, x.level(0));
        x.interrupt(3);
        due("blocked with a GET", 0, x.blocked(0, true));
        due("level", 3, x.level(0));
        x.interrupt(0);
        due("awaiting", 0, x.awaiting(1));
        due("it holds what it held", 1, x.holds(0, 0));
    }

    @Says(part = "Promise 12", words = "if it was WAITING, REST becomes the ticks that it still had to"
            + " wait")
    static void restOfAWait() {
        Sandglass x = new Sandglass();
        script(x, pause(99, 0));
        x.start(0, 0, 0);
        x.step();
        due("all of them", 99, x.interrupt(0));
        Sandglass y = new Sandglass();
        script(y, pause(99, 0));
        y.start(0, 0, 0);
        y.run(98);
        due("the last one", 1, y.interrupt(0));
        Sandglass z = new Sandglass();
        script(z, pause(5, 0), await(0));
        z.start(0, 0, 5);
        z.start(0, 0, 0);
        z.step();
        z.step();
        due("time", 5, z.time());
        due("state", 1, z.stateOf(1));
        due("none, as its event is at this TIME", 0, z.interrupt(1));
        due("event", 5, z.eventOf(1));
    }

    @Says(part = "Promise 12", words = "Returns its REST then.")
    static void returnsItsRest() {
        Sandglass x = new Sandglass();
        script(x, pause(20, 0), await(0), pause(3, 0), await(0));
        x.start(0, 0, 0);
        x.run(8);
        due("as it was WAITING", 12, x.interrupt(0));
        due("rest", 12, x.restOf(0));
        x.step();
        due("as it was AWAITING, that of before", 12, x.interrupt(0));
        x.run(1);
        due("as it was WAITING again", 2, x.interrupt(0));
        due("rest", 2, x.restOf(0));
    }

    @Says(part = "Promise 12", words = "its PLACE becomes the HANDLER of its script, if that is not -1")
    static void placeOfTheHandler() {
        int[] handlers = {-1, 0, 1, 3, 15};
        int[] places = {2, 0, 1, 3, 15};
        for (int i = 0; i < handlers.length; i++) {
            Sandglass x = new Sandglass();
            script(x, mark(), await(0), await(1));
            script(x, mark());
            x.setHandler(0, handlers[i]);
            x.setHandler(1, 9);
            x.start(0, 0, 0);
            x.step();
            x.interrupt(0);
            due("place with the HANDLER " + handlers[i], places[i], x.placeOf(0));
            x.step();
            due("state", handlers[i] >= 3 ? 5 : 4, x.stateOf(0));
        }
    }

    @Says(part = "Promise 12", words = "it is READY, with an event at this TIME")
    static void readyBehindOthers() {
        Sandglass x = new Sandglass();
        script(x, await(0), pause(7, 0));
        script(x);
        x.start(0, 0, 0);
        x.run(4);
        x.start(1, 0, 0);
        x.start(1, 0, 1);
        x.interrupt(0);
        due("state", 0, x.stateOf(0));
        due("event", 4, x.eventOf(0));
        due("made ahead of it", 1, x.step());
        due("then it goes on", 0, x.step());
        due("time", 4, x.time());
    }

    @Says(part = "Promise 12", words = "(What it leaves is served, or gone on with, as told in 4 and 5,"
            + " ahead of its being READY.)")
    static void servedAhead() {
        Sandglass x = new Sandglass();
        x.addResource(0, 2);
        script(x, seize(0, 1), await(0));
        script(x, seize(0, 2), await(0));
        x.start(0, 0, 0);
        x.start(1, 0, 0);
        x.start(0, 0, 0);
        x.run(0);
        x.interrupt(1);
        due("the next one was served", 1, x.holds(2, 0));
        due("it goes on first", 2, x.step());
        due("then the one interrupted", 1, x.step());

        Sandglass y = new Sandglass();
        y.addStore(9, 5);
        script(y, put(0, 5), await(0));
        script(y, put(0, 4), await(0));
        y.start(0, 0, 0);
        y.start(1, 0, 0);
        y.run(0);
        y.interrupt(0);
        due("the next one has put", 9, y.level(0));
        due("it goes on first", 1, y.step());
        due("then the one interrupted", 0, y.step());
    }

    // ---- Promise 13

    @Says(part = "Promise 13", words = "Cancels a process.")
    static void statesToCancel() {
        for (int state = 0; state <= 4; state++) {
            Sandglass x = Worlds.states();
            due("cancel in the state " + state, 0, x.cancel(state));
            due("state", 7, x.stateOf(state));
            due("event", -1, x.eventOf(state));
            due("events", state < 2 ? 1 : 2, x.events());
            due("queued", state == 2 ? 0 : 1, x.queued(0));
            due("blocked", state == 3 ? 0 : 1, x.blocked(0, false));
            due("awaiting", state == 4 ? 0 : 1, x.awaiting(0));
            due("time", 2, x.time());
        }
    }

    @Says(part = "Promise 13", words = "Returns how many units it held, of all resources together.")
    static void unitsOfTheCancelled() {
        Sandglass x = new Sandglass();
        for (int i = 0; i < 6; i++) {
            x.addResource(0, 9);
        }
        script(x, seize(0, 9), seize(1, 1), seize(2, 1), seize(3, 1), seize(4, 1), seize(5, 9),
                seize(5, 1), await(0));
        script(x, seize(1, 8), release(1, 5), await(0));
        x.start(0, 0, 0);
        x.start(1, 0, 0);
        x.start(1, 0, 5);
        x.run(0);
        due("of all six, as it asks for more", 22, x.cancel(0));
        due("what it has not released", 3, x.cancel(1));
        due("none", 0, x.cancel(2));
        due("free", 9, x.free(5));
    }

    @Says(part = "Promise 13", words = "Throws `IndexOutOfBoundsException` if there is no such process")
    static void processToCancel() {
        due("the last one", 1, Worlds.states().cancel(8));
        refused(INDEX, Sandglass::new, "cancel(0) of none", x -> x.cancel(0));
        int[] none = {-1, 9, 24, Integer.MIN_VALUE, Integer.MAX_VALUE};
        for (int process : none) {
            refused(INDEX, Worlds::states, "cancel(" + process + ")", x -> x.cancel(process));
        }
    }

    @Says(part = "Promise 13", words = "Throws `IllegalStateException` if it is ENDED, BROKEN or CANCELLED")
    static void statesNotToCancel() {
        for (int state = 5; state <= 7; state++) {
            int over = state;
            refused(STATE, Worlds::states, "cancel in the state " + state, x -> x.cancel(over));
        }
    }
}
