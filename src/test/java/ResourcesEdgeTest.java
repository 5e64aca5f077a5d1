/** The boundaries of the Terms 4: resources, their QUEUES, VICTIMS, and being SERVED. */
public final class ResourcesEdgeTest extends Check {

    public static void main(String[] args) {
        tests(ResourcesEdgeTest.class);
        end();
    }

    private static Sandglass withResource(int kind, int units) {
        Sandglass x = new Sandglass();
        x.addResource(kind, units);
        return x;
    }

    /** A script that asks the resource 0 for units, and then waits. */
    private static int user(Sandglass x, int units, int ticks) {
        return script(x, seize(0, units), pause(ticks, 0), await(3));
    }

    /** A script that asks the resource 0 for units, and then awaits: it is no VICTIM. */
    private static int firm(Sandglass x, int units) {
        return script(x, seize(0, units), await(2));
    }

    /** Starts a process now, and lets it happen. */
    private static int comes(Sandglass x, int script, int rank) {
        int process = x.start(script, rank, 0);
        due("the one who comes", process, x.step());
        return process;
    }

    private static void dueQueue(Sandglass x, int... processes) {
        due("queued", processes.length, x.queued(0));
        for (int i = 0; i < processes.length && i < x.queued(0); i++) {
            due("at the place " + i, processes[i], x.queuedAt(0, i));
        }
    }

    // ---- the QUEUE

    @Says(part = "Terms 4", words = "Each has a QUEUE: with the kind 0 in the order in which processes"
            + " came to it")
    static void queueByTurns() {
        Sandglass x = withResource(0, 1);
        int firm = firm(x, 1);
        int[] ranks = {5, 9, 0, 5, 0};
        for (int rank : ranks) {
            comes(x, firm, rank);
        }
        dueQueue(x, 1, 2, 3, 4);
    }

    @Says(part = "Terms 4", words = "with 1 and 2 by the RANKS that they had as they came, the smallest"
            + " first, those that are the same as they came.")
    static void queueByRanks() {
        for (int kind = 1; kind <= 2; kind++) {
            Sandglass x = withResource(kind, 1);
            int firm = firm(x, 1);
            int[] ranks = {5, 9, 0, 5, 0, 9, 5};
            for (int rank : ranks) {
                comes(x, firm, rank);
            }
            dueQueue(x, 2, 4, 3, 6, 1, 5);
        }
    }

    @Says(part = "Terms 4", words = "by the RANKS that they had as they came")
    static void ranksAsTheyCame() {
        Sandglass x = withResource(1, 1);
        int firm = firm(x, 1);
        int rising = script(x, rank(0), seize(0, 1), await(2));
        int falling = script(x, rank(9), seize(0, 1), await(2));
        comes(x, firm, 5);
        comes(x, firm, 4);
        comes(x, rising, 9);
        comes(x, falling, 0);
        comes(x, firm, 8);
        dueQueue(x, 2, 1, 4, 3);
        Sandglass thrown = withResource(2, 1);
        int later = script(thrown, seize(0, 1), rank(8), pause(50, 0));
        firm = firm(thrown, 1);
        comes(thrown, later, 2);
        comes(thrown, firm, 1);
        comes(thrown, firm, 5);
        comes(thrown, firm, 8);
        dueQueue(thrown, 2, 0, 3);
    }

    @Says(part = "Terms 4", words = "A process that asks for more units than the resource has in all is"
            + " BROKEN")
    static void moreThanInAll() {
        for (int kind = 0; kind <= 2; kind++) {
            Sandglass x = withResource(kind, 3);
            due("state with as many", 4, x.stateOf(comes(x, firm(x, 3), 0)));
            due("state with one more", 6, x.stateOf(comes(x, firm(x, 4), 0)));
            Sandglass nine = withResource(kind, 9);
            due("state with nine of nine", 4, nine.stateOf(comes(nine, firm(nine, 9), 0)));
            Sandglass more = withResource(kind, 3);
            int twice = script(more, seize(0, 2), seize(0, 3), await(0));
            due("who holds 2 may ask for 3 more, and waits", 2, more.stateOf(comes(more, twice, 0)));
        }
    }

    @Says(part = "Terms 4", words = "is BROKEN, and does not come into the QUEUE.")
    static void brokenOutsideTheQueue() {
        Sandglass x = withResource(1, 2);
        comes(x, firm(x, 3), 0);
        due("longest", 0, x.longest(0));
        comes(x, firm(x, 2), 5);
        comes(x, firm(x, 2), 5);
        due("longest", 1, x.longest(0));
        comes(x, firm(x, 3), 0);
        due("longest, as one was in it", 1, x.longest(0));
        dueQueue(x, 2);
    }

    // ---- who asks

    @Says(part = "Terms 4", words = "Who asks comes into the QUEUE. If it is the first one there, and as"
            + " many units are free as it asks for, it leaves the QUEUE, has them, and goes on.")
    static void asManyAsAreFree() {
        for (int kind = 0; kind <= 2; kind++) {
            Sandglass x = withResource(kind, 5);
            comes(x, firm(x, 2), 5);
            due("it came into the QUEUE", 1, x.longest(0));
            due("state with as many as are free", 4, x.stateOf(comes(x, firm(x, 3), 5)));
            due("holds", 3, x.holds(1, 0));
            due("free", 0, x.free(0));
            dueQueue(x);
            Sandglass y = withResource(kind, 5);
            comes(y, firm(y, 2), 5);
            due("state with one more", 2, y.stateOf(comes(y, firm(y, 4), 5)));
            due("holds", 0, y.holds(1, 0));
            due("free", 3, y.free(0));
            dueQueue(y, 1);
        }
    }

    @Says(part = "Terms 4", words = "If it is the first one there")
    static void onlyTheFirstOne() {
        for (int kind = 0; kind <= 2; kind++) {
            Sandglass x = withResource(kind, 5);
            comes(x, firm(x, 3), 5);
            comes(x, firm(x, 3), 5);
            int one = firm(x, 1);
            due("state with an equal rank", 2, x.stateOf(comes(x, one, 5)));
            due("state with a greater rank", 2, x.stateOf(comes(x, one, 6)));
            due("state with a smaller rank", kind == 0 ? 2 : 4, x.stateOf(comes(x, one, 4)));
            due("free", kind == 0 ? 2 : 1, x.free(0));
            due("the first one waits still", 1, x.queuedAt(0, 0));
        }
    }

    // ---- VICTIMS

    @Says(part = "Terms 4", words = "not so many are free, and the kind is 2, it looks for VICTIMS")
    static void onlyTheKindTwo() {
        for (int kind = 0; kind <= 2; kind++) {
            Sandglass x = withResource(kind, 2);
            comes(x, user(x, 1, 50), 9);
            comes(x, firm(x, 1), 0);
            due("as many are free: it keeps its unit", 1, x.holds(0, 0));
            comes(x, firm(x, 1), 0);
            due("not so many are free", kind == 2 ? 0 : 1, x.holds(0, 0));
            due("who asks", kind == 2 ? 1 : 0, x.holds(2, 0));
        }
    }

    @Says(part = "Terms 4", words = "If it is the first one, not so many are free")
    static void notTheFirstOneTakesNothing() {
        Sandglass x = withResource(2, 4);
        comes(x, user(x, 1, 50), 9);
        comes(x, firm(x, 3), 0);
        comes(x, firm(x, 3), 4);
        dueQueue(x, 2);
        comes(x, firm(x, 1), 4);
        due("an equal rank came first: nobody is thrown out", 1, x.holds(0, 0));
        comes(x, firm(x, 1), 5);
        due("a smaller rank is there: nobody is thrown out", 1, x.holds(0, 0));
        comes(x, firm(x, 1), 3);
        due("as it is the first one", 0, x.holds(0, 0));
        dueQueue(x, 2, 3, 4, 0);
    }

    @Says(part = "Terms 4", words = "and have a greater RANK than it")
    static void greaterRank() {
        for (int rank = 3; rank <= 5; rank++) {
            Sandglass x = withResource(2, 1);
            comes(x, user(x, 1, 50), rank);
            comes(x, firm(x, 1), 4);
            due("of the rank " + rank + ", as 4 asks", rank == 5 ? 0 : 1, x.holds(0, 0));
        }
        Sandglass risen = withResource(2, 1);
        int later = script(risen, seize(0, 1), rank(5), pause(50, 0));
        comes(risen, later, 0);
        comes(risen, firm(risen, 1), 4);
        due("the RANK that it has now counts", 0, risen.holds(0, 0));
        Sandglass sunk = withResource(2, 1);
        later = script(sunk, seize(0, 1), rank(0), pause(50, 0));
        comes(sunk, later, 9);
        comes(sunk, firm(sunk, 1), 4);
        due("also if it was greater before", 1, sunk.holds(0, 0));
    }

    @Says(part = "Terms 4", words = "other processes that hold units there, are WAITING")
    static void onlyWaitingOnes() {
        int[][] behind = {pause(50, 0), await(0), seize(1, 1), put(0, 1), get(1, 1)};
        int[] states = {1, 4, 2, 3, 3};
        for (int i = 0; i < behind.length; i++) {
            Sandglass x = withResource(2, 1);
            x.addResource(0, 1);
            x.addStore(1, 1);
            x.addStore(1, 0);
            comes(x, script(x, seize(1, 1), await(1)), 0);
            comes(x, script(x, seize(0, 1), behind[i]), 9);
            comes(x, firm(x, 1), 0);
            due("it holds, in the state " + states[i], i == 0 ? 0 : 1, x.holds(1, 0));
            due("its state", i == 0 ? 2 : states[i], x.stateOf(1));
        }
    }

    @Says(part = "Terms 4", words = "are WAITING")
    static void readyOnesAreNoVictims() {
        Sandglass x = withResource(2, 1);
        comes(x, user(x, 1, 50), 9);
        x.start(firm(x, 1), 0, 0);
        x.interrupt(0);
        due("who asks", 1, x.step());
        due("one that was interrupted keeps its unit", 1, x.holds(0, 0));
        Sandglass y = withResource(2, 1);
        comes(y, firm(y, 1), 5);
        comes(y, user(y, 1, 50), 9);
        y.start(firm(y, 1), 0, 0);
        y.cancel(0);
        due("one that was just SERVED is READY", 0, y.stateOf(1));
        due("who asks", 2, y.step());
        due("it keeps its unit", 1, y.holds(1, 0));
    }

    @Says(part = "Terms 4", words = "that hold units there")
    static void unitsThere() {
        Sandglass x = withResource(2, 2);
        x.addResource(2, 2);
        comes(x, script(x, seize(1, 2), pause(50, 0)), 9);
        comes(x, user(x, 1, 50), 6);
        comes(x, firm(x, 2), 5);
        due("who holds units elsewhere keeps them", 2, x.holds(0, 1));
        due("and waits on", 50, x.eventOf(0));
        due("who holds units there loses them", 0, x.holds(1, 0));
        Sandglass y = withResource(2, 2);
        comes(y, script(y, seize(0, 1), release(0, 1), pause(50, 0)), 9);
        comes(y, user(y, 2, 50), 8);
        comes(y, firm(y, 1), 5);
        due("who has released all is not thrown out", 1, y.stateOf(0));
        dueQueue(y, 1);
    }

    @Says(part = "Terms 4", words = "the one with the greatest RANK first, of several the one that got"
            + " units there last")
    static void orderOfVictims() {
        Sandglass x = withResource(2, 4);
        int user = user(x, 1, 50);
        int firm = firm(x, 1);
        comes(x, user, 5);
        comes(x, user, 7);
        comes(x, user, 7);
        comes(x, user, 5);
        int[] order = {2, 1, 3, 0};
        for (int i = 0; i < order.length; i++) {
            comes(x, firm, 0);
            for (int j = 0; j < order.length; j++) {
                due("holds behind " + (i + 1), j <= i ? 0 : 1, x.holds(order[j], 0));
            }
        }
        dueQueue(x, 3, 0, 2, 1);
    }

    @Says(part = "Terms 4", words = "the one that got units there last")
    static void gotUnitsLast() {
        Sandglass more = withResource(2, 3);
        more.addResource(0, 9);
        comes(more, script(more, seize(0, 1), pause(1, 0), seize(0, 1), pause(50, 0)), 5);
        comes(more, script(more, seize(0, 1), pause(2, 0), seize(1, 9), pause(50, 0)), 5);
        more.run(3);
        comes(more, firm(more, 1), 0);
        due("who got more later is the last one", 0, more.holds(0, 0));
        due("units of another resource do not count", 1, more.holds(1, 0));

        Sandglass served = withResource(2, 2);
        int firm = firm(served, 1);
        comes(served, firm, 0);
        int user = user(served, 1, 50);
        comes(served, user, 5);
        comes(served, user, 5);
        served.cancel(0);
        served.run(0);
        comes(served, firm, 0);
        due("to be SERVED is to get units", 0, served.holds(2, 0));
        due("the one before", 1, served.holds(1, 0));

        Sandglass behind = withResource(2, 3);
        comes(behind, user(behind, 3, 50), 9);
        int taker = script(behind, seize(0, 2), rank(8), pause(50, 0));
        behind.start(taker, 2, 1);
        comes(behind, script(behind, seize(0, 1), rank(8), pause(50, 0)), 9);
        behind.run(1);
        due("who takes", 2, behind.holds(1, 0));
        due("who was SERVED behind it", 1, behind.holds(2, 0));
        comes(behind, firm(behind, 1), 0);
        due("that one got units last", 0, behind.holds(2, 0));
        due("though who took is of the same rank", 2, behind.holds(1, 0));

        Sandglass released = withResource(2, 4);
        int part = script(released, seize(0, 2), pause(2, 0), release(0, 1), pause(50, 0));
        user = user(released, 2, 50);
        comes(released, part, 5);
        comes(released, user, 5);
        released.run(3);
        comes(released, firm(released, 2), 0);
        due("to release is not to get", 1, released.holds(0, 0));
        due("who got units last", 0, released.holds(1, 0));
    }

    @Says(part = "Terms 4", words = "If the free units and those of all VICTIMS are as many as it asks for")
    static void asManyWithThoseOfVictims() {
        for (int asked = 4; asked <= 5; asked++) {
            Sandglass x = withResource(2, 5);
            comes(x, user(x, 2, 50), 9);
            comes(x, user(x, 1, 50), 8);
            comes(x, firm(x, 1), 9);
            comes(x, firm(x, asked), 7);
            boolean takes = asked == 4;
            due("who asks for " + asked, takes ? 4 : 0, x.holds(3, 0));
            due("state", takes ? 4 : 2, x.stateOf(3));
            due("the first VICTIM", takes ? 0 : 2, x.holds(0, 0));
            due("the second VICTIM", takes ? 0 : 1, x.holds(1, 0));
            due("free", takes ? 0 : 1, x.free(0));
            due("longest", takes ? 3 : 1, x.longest(0));
        }
        Sandglass none = withResource(2, 2);
        comes(none, user(none, 2, 50), 3);
        comes(none, firm(none, 2), 3);
        due("without any VICTIM", 2, none.holds(0, 0));
        dueQueue(none, 1);
    }

    @Says(part = "Terms 4", words = "VICTIMS are thrown out, one by one, until as many are free")
    static void oneByOne() {
        int[] firstHolds = {0, 0, 0, 0};
        int[] secondHolds = {2, 2, 0, 0};
        int[] free = {1, 0, 1, 0};
        for (int asked = 1; asked <= 4; asked++) {
            Sandglass x = withResource(2, 4);
            comes(x, user(x, 2, 50), 9);
            comes(x, user(x, 2, 50), 8);
            comes(x, firm(x, asked), 0);
            due("the first VICTIM of " + asked, firstHolds[asked - 1], x.holds(0, 0));
            due("the second VICTIM of " + asked, secondHolds[asked - 1], x.holds(1, 0));
            due("free", free[asked - 1], x.free(0));
        }
    }

    @Says(part = "Terms 4", words = "then it leaves the QUEUE, has them, the QUEUE is SERVED, and it goes"
            + " on.")
    static void servedBehindATaking() {
        Sandglass x = withResource(2, 3);
        int going = script(x, seize(0, 2), pause(0, 0), await(0));
        comes(x, user(x, 3, 50), 9);
        comes(x, firm(x, 1), 9);
        dueQueue(x, 1);
        comes(x, going, 2);
        due("it goes on at once", 1, x.stateOf(2));
        due("what is left is for the first one", 1, x.holds(1, 0));
        dueQueue(x, 0);
        due("which was READY ahead of its next event", 1, x.step());
        due("then that", 2, x.step());
    }

    @Says(part = "Terms 4", words = "the QUEUE is SERVED, and it goes on.")
    static void victimServedAtOnce() {
        Sandglass x = withResource(2, 4);
        comes(x, user(x, 3, 50), 9);
        comes(x, user(x, 1, 40), 9);
        x.run(5);
        comes(x, firm(x, 2), 2);
        due("the one thrown out first has its unit again", 1, x.holds(1, 0));
        due("it is WAITING", 1, x.stateOf(1));
        due("event", 40, x.eventOf(1));
        due("rest", 0, x.restOf(1));
        dueQueue(x, 0);
        due("free", 1, x.free(0));
        due("all three were in the QUEUE", 3, x.longest(0));
    }

    @Says(part = "Terms 4", words = "(It takes units only as it asks.)")
    static void onlyAsItAsks() {
        Sandglass x = withResource(2, 1);
        comes(x, script(x, seize(0, 1), await(0), pause(50, 0)), 9);
        comes(x, firm(x, 1), 0);
        x.interrupt(0);
        x.step();
        due("the holder is WAITING now", 1, x.stateOf(0));
        due("and keeps its unit", 1, x.holds(0, 0));
        comes(x, firm(x, 1), 1);
        due("also as another one comes behind", 1, x.holds(0, 0));
        dueQueue(x, 1, 2);
        Sandglass y = withResource(2, 2);
        comes(y, script(y, seize(0, 1), await(0), pause(50, 0)), 9);
        comes(y, firm(y, 1), 9);
        comes(y, firm(y, 2), 0);
        comes(y, firm(y, 2), 1);
        y.interrupt(0);
        y.step();
        y.cancel(1);
        due("as units are released, too few without its own", 1, y.holds(0, 0));
        dueQueue(y, 2, 3);
        y.cancel(2);
        due("as one leaves the QUEUE", 1, y.holds(0, 0));
        dueQueue(y, 3);
        due("free", 1, y.free(0));
    }

    // ---- to be thrown out

    @Says(part = "Terms 4", words = "To be thrown out is to lose all units that one holds there")
    static void losesAllThere() {
        Sandglass x = withResource(2, 5);
        x.addResource(2, 3);
        comes(x, script(x, seize(0, 1), seize(1, 3), seize(0, 4), pause(50, 0)), 9);
        comes(x, firm(x, 1), 0);
        due("units there", 0, x.holds(0, 0));
        due("free", 4, x.free(0));
        due("units elsewhere", 3, x.holds(0, 1));
        comes(x, script(x, seize(1, 1), await(0)), 0);
        due("being QUEUED it is no VICTIM elsewhere", 3, x.holds(0, 1));
    }

    @Says(part = "Terms 4", words = "one's event is gone")
    static void thrownOutEvent() {
        Sandglass x = withResource(2, 1);
        comes(x, user(x, 1, 50), 9);
        due("events", 1, x.events());
        comes(x, firm(x, 1), 0);
        due("event", -1, x.eventOf(0));
        due("events", 0, x.events());
        due("nothing happens at its time", 0, x.run(60));
    }

    /** The process 0 waits for 20 ticks from the time 4 on, and is thrown out at this time. */
    private static Sandglass thrownOutAt(int time) {
        Sandglass x = withResource(2, 1);
        int urgent = script(x, seize(0, 1), await(1), release(0, 1), await(1));
        x.start(urgent, 0, time);
        x.start(user(x, 1, 20), 9, 4);
        x.run(time - 1);
        x.step();
        return x;
    }

    @Says(part = "Terms 4", words = "REST becomes the ticks that one still had to wait")
    static void restOfTheThrownOut() {
        due("at once: all ticks", 20, thrownOutBeside().restOf(0));
        due("one tick later", 19, thrownOutAt(5).restOf(1));
        due("with one tick left", 1, thrownOutAt(23).restOf(1));
        Sandglass last = thrownOutAt(24);
        due("time", 24, last.time());
        due("state", 2, last.stateOf(1));
        due("at the time of its event, ahead of that", 0, last.restOf(1));
        Sandglass before = withResource(2, 1);
        comes(before, script(before, pause(30, 0), seize(0, 1), pause(20, 0)), 9);
        before.interrupt(0);
        before.run(3);
        due("a REST from before", 30, before.restOf(0));
        comes(before, firm(before, 1), 0);
        due("is replaced", 17, before.restOf(0));
    }

    private static Sandglass thrownOutBeside() {
        Sandglass x = withResource(2, 1);
        comes(x, user(x, 1, 20), 9);
        comes(x, firm(x, 1), 0);
        return x;
    }

    @Says(part = "Terms 4", words = "and one comes into the QUEUE, asking for as many units as one lost,"
            + " and is QUEUED.")
    static void asksForWhatItLost() {
        Sandglass x = withResource(2, 4);
        comes(x, user(x, 3, 50), 9);
        comes(x, script(x, seize(0, 2), await(0), release(0, 1), await(0), release(0, 1), await(0)),
                0);
        due("state", 2, x.stateOf(0));
        due("place stays behind its WAIT", 2, x.placeOf(0));
        dueQueue(x, 0);
        due("free", 2, x.free(0));
        x.interrupt(1);
        x.step();
        due("as 3 are free, so many as it lost", 3, x.holds(0, 0));
        due("free", 0, x.free(0));
        due("state", 1, x.stateOf(0));
    }

    // ---- to be SERVED

    @Says(part = "Terms 4", words = "The QUEUE is SERVED, besides, whenever units are released")
    static void servedAsUnitsAreReleased() {
        for (int how = 0; how < 4; how++) {
            Sandglass x = withResource(0, 2);
            int[][] ways = {release(0, 1), mark(), seize(0, 3), await(0)};
            comes(x, script(x, seize(0, 2), await(0), ways[how]), 0);
            comes(x, firm(x, 1), 0);
            if (how == 3) {
                x.cancel(0);
            } else {
                x.interrupt(0);
                x.step();
            }
            due("by RELEASE, ENDED, BROKEN, CANCELLED: " + how, 1, x.holds(1, 0));
            due("state", 0, x.stateOf(1));
            dueQueue(x);
        }
    }

    @Says(part = "Terms 4", words = "(not as one is thrown out)")
    static void notServedAsOneIsThrownOut() {
        Sandglass x = withResource(2, 2);
        comes(x, user(x, 1, 50), 9);
        comes(x, user(x, 1, 50), 8);
        comes(x, script(x, seize(0, 2), rank(5), await(0)), 2);
        due("both units go to the one who takes", 2, x.holds(2, 0));
        due("it goes on at once", 5, x.rankOf(2));
        dueQueue(x, 1, 0);
        due("events", 0, x.events());
    }

    @Says(part = "Terms 4", words = "and whenever one leaves it that did not get units")
    static void servedAsOneLeaves() {
        for (int how = 0; how < 2; how++) {
            Sandglass x = withResource(0, 3);
            int one = firm(x, 1);
            comes(x, firm(x, 2), 0);
            comes(x, firm(x, 2), 0);
            comes(x, firm(x, 2), 0);
            comes(x, one, 0);
            dueQueue(x, 1, 2, 3);
            leave(x, 2, how);
            due("as one in the middle leaves", 0, x.holds(3, 0));
            dueQueue(x, 1, 3);
            leave(x, 1, how);
            due("as the first one leaves", 1, x.holds(3, 0));
            due("state", 0, x.stateOf(3));
            dueQueue(x);
            due("longest", 3, x.longest(0));
        }
    }

    private static void leave(Sandglass x, int process, int how) {
        if (how == 0) {
            x.interrupt(process);
        } else {
            x.cancel(process);
        }
    }

    @Says(part = "Terms 4", words = "as long as there is a first one that asks for no more units than are"
            + " free, it leaves the QUEUE and has them.")
    static void asLongAsTheFirstOneFits() {
        Sandglass x = withResource(0, 9);
        comes(x, script(x, seize(0, 9), await(0), release(0, 6), await(0)), 0);
        int[] asked = {1, 2, 3, 1};
        for (int units : asked) {
            comes(x, firm(x, units), 0);
        }
        x.interrupt(0);
        x.step();
        due("the first", 1, x.holds(1, 0));
        due("the second", 2, x.holds(2, 0));
        due("the third, as many as are free", 3, x.holds(3, 0));
        dueQueue(x, 4);
        Sandglass y = withResource(0, 9);
        comes(y, script(y, seize(0, 9), await(0), release(0, 5), await(0)), 0);
        for (int units : asked) {
            comes(y, firm(y, units), 0);
        }
        y.interrupt(0);
        y.step();
        due("the third asks for one more than are free", 0, y.holds(3, 0));
        due("none comes ahead of it", 0, y.holds(4, 0));
        dueQueue(y, 3, 4);
        due("free", 2, y.free(0));
    }

    @Says(part = "Terms 4", words = "as long as there is a first one")
    static void servedToTheLastOne() {
        Sandglass x = withResource(1, 9);
        comes(x, script(x, seize(0, 9), await(0)), 0);
        int one = firm(x, 1);
        for (int i = 0; i < 9; i++) {
            comes(x, one, 9 - i);
        }
        x.cancel(0);
        dueQueue(x);
        due("free", 0, x.free(0));
        for (int i = 9; i >= 1; i--) {
            due("in the order of the QUEUE", i, x.step());
        }
        Sandglass none = withResource(0, 2);
        comes(none, firm(none, 2), 0);
        none.cancel(0);
        due("with nobody in it", 2, none.free(0));
    }

    @Says(part = "Terms 4", words = "It is READY then, with an event at this TIME")
    static void servedIsReady() {
        Sandglass x = withResource(0, 1);
        comes(x, firm(x, 1), 0);
        int script = script(x, pause(9, 0), seize(0, 1), rank(7), await(0));
        comes(x, script, 3);
        x.run(4);
        x.interrupt(1);
        x.step();
        due("state", 2, x.stateOf(1));
        x.run(6);
        x.cancel(0);
        due("state", 0, x.stateOf(1));
        due("event", 10, x.eventOf(1));
        due("its REST stays", 5, x.restOf(1));
        due("holds", 1, x.holds(1, 0));
        due("it has not gone on yet", 3, x.rankOf(1));
        x.step();
        due("it goes on", 7, x.rankOf(1));
    }

    @Says(part = "Terms 4", words = "one that is in the QUEUE because it was thrown out is WAITING instead,"
            + " with an event REST ticks later, and its REST becomes 0.")
    static void thrownOutIsWaitingAgain() {
        int[] times = {5, 23, 24};
        for (int time : times) {
            Sandglass x = thrownOutAt(time);
            x.run(30 - time);
            x.interrupt(0);
            due("the release", 0, x.step());
            due("state", 1, x.stateOf(1));
            due("event", 30 + 24 - time, x.eventOf(1));
            due("rest", 0, x.restOf(1));
            due("holds", 1, x.holds(1, 0));
            x.run(24 - time);
            due("it goes on behind its WAIT", 4, x.stateOf(1));
        }
    }

    @Says(part = "Terms 4", words = "one that is in the QUEUE because it was thrown out")
    static void thrownOutAndAskingAnew() {
        Sandglass x = thrownOutAt(5);
        x.setHandler(1, 0);
        due("interrupt", 19, x.interrupt(1));
        dueQueue(x);
        due("it asks anew", 1, x.step());
        dueQueue(x, 1);
        x.cancel(0);
        due("READY, as others that ask", 0, x.stateOf(1));
        due("event", 5, x.eventOf(1));
        due("its REST stays", 19, x.restOf(1));
        Sandglass twice = thrownOutAt(5);
        twice.interrupt(0);
        twice.step();
        due("it has its unit again", 1, twice.holds(1, 0));
        twice.run(4);
        comes(twice, 0, 0);
        due("and is thrown out again", 0, twice.holds(1, 0));
        due("rest", 15, twice.restOf(1));
    }
}
