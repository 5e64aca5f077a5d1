/** The term 4, resources; with it promises 26 to 32. */
public final class ResourceTest {

    public static void main(String[] args) {
        byTurns();
        byRanks();
        served();
        rankAsItCame();
        release();
        neverAhead();
        tooMany();
        counts();
        takes();
        takesSeveral();
        takesTheLatest();
        takesTheLatestThatGotAgain();
        takesNothing();
        victimsOnlyWaiting();
        otherKindsDoNotTake();
        takenServes();
        thrownOutGoesOn();
        thrownOutInterrupted();
        endReleases();
        askingThrows();
        Check.end();
    }

    /** A script that seizes units of the resource 0, waits, and ends. */
    private static int user(Sandglass x, int units, int ticks) {
        return Check.script(x, Check.seize(0, units), Check.pause(ticks, 0));
    }

    private static void byTurns() {
        Check.promise(29, "queuedAt, by turns");
        Sandglass x = new Sandglass();
        x.addResource(0, 2);
        int user = user(x, 2, 10);
        x.start(user, 9, 0);
        x.start(user, 5, 1);
        x.start(user, 0, 2);
        x.start(user, 5, 3);
        x.run(4);
        Check.due("queued", 3, x.queued(0));
        Check.due("first", 1, x.queuedAt(0, 0));
        Check.due("second", 2, x.queuedAt(0, 1));
        Check.due("third", 3, x.queuedAt(0, 2));
        Check.due("state", 2, x.stateOf(1));
        Check.due("event", -1, x.eventOf(1));
        x.run(6);
        Check.due("holds", 2, x.holds(1, 0));
        Check.due("queued", 2, x.queued(0));
        Check.due("first", 2, x.queuedAt(0, 0));
        x.run(10);
        Check.due("holds", 2, x.holds(2, 0));
    }

    private static void served() {
        Check.promise(20, "stateOf one that is served: READY");
        Sandglass x = new Sandglass();
        x.addResource(0, 2);
        int user = Check.script(x, Check.pause(20, 0), Check.seize(0, 2), Check.pause(9, 0));
        x.setHandler(user, 1);
        x.start(user, 0, 0);
        x.start(user, 0, 1);
        x.run(18);
        Check.due("interrupt", 2, x.interrupt(0));
        Check.due("interrupt", 3, x.interrupt(1));
        x.run(3);
        Check.due("state", 2, x.stateOf(1));
        x.run(5);
        Check.due("step", 0, x.step());
        Check.due("state", 0, x.stateOf(1));
        Check.due("event", 27, x.eventOf(1));
        Check.due("rest stays", 3, x.restOf(1));
        Check.due("place behind the SEIZE", 2, x.placeOf(1));
    }

    private static void byRanks() {
        Check.promise(29, "queuedAt, by ranks");
        for (int kind = 1; kind <= 2; kind++) {
            Sandglass x = new Sandglass();
            x.addResource(kind, 2);
            int user = user(x, 2, 10);
            x.start(user, 0, 0);
            x.start(user, 5, 1);
            x.start(user, 7, 2);
            x.start(user, 0, 3);
            x.start(user, 5, 4);
            x.start(user, 0, 5);
            x.run(6);
            Check.due("queued", 5, x.queued(0));
            int[] due = {3, 5, 1, 4, 2};
            for (int i = 0; i < due.length; i++) {
                Check.due("place " + i, due[i], x.queuedAt(0, i));
            }
            x.run(4);
            Check.due("holds", 2, x.holds(3, 0));
        }
    }

    private static void rankAsItCame() {
        Check.promise(29, "the rank is that of the one who asks as it asks");
        Sandglass x = new Sandglass();
        x.addResource(1, 1);
        int holder = user(x, 1, 20);
        int riser = Check.script(x, Check.rank(2), Check.seize(0, 1), Check.rank(9));
        int plain = Check.script(x, Check.seize(0, 1), Check.rank(8));
        x.start(holder, 0, 0);
        x.start(plain, 3, 1);
        x.start(riser, 7, 2);
        x.run(2);
        Check.due("first", 2, x.queuedAt(0, 0));
        Check.due("second", 1, x.queuedAt(0, 1));
    }

    private static void release() {
        Check.promise(27, "free, with RELEASE");
        Sandglass x = new Sandglass();
        x.addResource(0, 5);
        x.addResource(0, 5);
        Check.script(x, Check.release(0, 9), Check.seize(0, 4), Check.seize(1, 2),
                Check.pause(1, 0), Check.release(0, 1), Check.pause(1, 0), Check.release(0, 9),
                Check.seize(0, 1), Check.seize(0, 2), Check.pause(1, 0));
        x.start(0, 0, 0);
        x.step();
        Check.due("free", 1, x.free(0));
        Check.due("free", 3, x.free(1));
        Check.due("holds", 4, x.holds(0, 0));
        Check.due("holds", 2, x.holds(0, 1));
        x.step();
        Check.due("free behind RELEASE of 1", 2, x.free(0));
        Check.due("holds", 3, x.holds(0, 0));
        x.step();
        Check.due("released all, then seized twice", 3, x.holds(0, 0));
        Check.due("free", 2, x.free(0));
        Check.due("the other resource", 2, x.holds(0, 1));
        x.step();
        Check.due("free at the end", 5, x.free(0));
        Check.due("free at the end", 5, x.free(1));
    }

    private static void neverAhead() {
        Check.promise(28, "queued: none gets units ahead of the first one");
        Sandglass x = new Sandglass();
        x.addResource(0, 3);
        int two = user(x, 2, 10);
        int one = user(x, 1, 10);
        x.start(two, 0, 0);
        x.start(two, 0, 1);
        x.start(one, 0, 2);
        x.run(5);
        Check.due("free", 1, x.free(0));
        Check.due("queued", 2, x.queued(0));
        x.run(5);
        Check.due("both are served by one release", 0, x.free(0));
        Check.due("queued", 0, x.queued(0));
        Check.due("READY at once, then WAITING", 1, x.stateOf(1));
        Check.due("event", 20, x.eventOf(1));
        Check.due("event", 20, x.eventOf(2));

        Sandglass y = new Sandglass();
        y.addResource(1, 3);
        two = user(y, 2, 10);
        one = user(y, 1, 10);
        y.start(two, 0, 0);
        y.start(two, 4, 1);
        y.start(one, 2, 2);
        y.run(2);
        Check.due("with ranks the more urgent one is the first", 1, y.holds(2, 0));
        Check.due("queued", 1, y.queued(0));
    }

    private static void tooMany() {
        Check.promise(32, "longest: who asks for too many does not come into the QUEUE");
        Sandglass x = new Sandglass();
        x.addResource(0, 2);
        x.addResource(0, 1);
        int greedy = Check.script(x, Check.seize(1, 1), Check.seize(0, 3), Check.await(0));
        int modest = Check.script(x, Check.seize(1, 1), Check.seize(0, 2), Check.await(0));
        x.start(greedy, 0, 0);
        x.step();
        Check.due("state", 6, x.stateOf(0));
        Check.due("longest", 0, x.longest(0));
        Check.due("queued", 0, x.queued(0));
        Check.due("it has released", 1, x.free(1));
        x.start(modest, 0, 0);
        x.step();
        Check.due("longest, also with those that leave it at once", 1, x.longest(0));
        Check.due("queued", 0, x.queued(0));
        x.start(modest, 0, 0);
        x.step();
        Check.due("queued", 1, x.queued(1));
        Check.due("longest", 1, x.longest(1));
    }

    private static void counts() {
        Check.promise(30, "busy, and 31 queueing, 32 longest");
        Sandglass x = new Sandglass();
        x.addResource(0, 3);
        int user = user(x, 2, 10);
        x.start(user, 0, 2);
        x.start(user, 0, 4);
        x.start(user, 0, 7);
        x.run(3);
        Check.due("busy", 2, x.busy(0));
        x.run(5);
        Check.due("busy", 12, x.busy(0));
        Check.due("queueing", 4 + 1, x.queueing(0));
        Check.due("longest", 2, x.longest(0));
        x.run(4);
        Check.due("busy", 20, x.busy(0));
        Check.due("queueing", 8 + 5, x.queueing(0));
        x.run(100);
        Check.due("busy", 60, x.busy(0));
        Check.due("queueing", 8 + 15, x.queueing(0));
        Check.due("longest", 2, x.longest(0));
        Check.due("time", 112, x.time());
    }

    private static void takes() {
        Check.promise(26, "holds, with one thrown out");
        Sandglass x = new Sandglass();
        x.addResource(2, 3);
        int lasting = Check.script(x, Check.seize(0, 3), Check.pause(20, 0), Check.pause(5, 0));
        int urgent = user(x, 1, 4);
        x.start(lasting, 6, 0);
        x.start(urgent, 5, 8);
        x.run(8);
        Check.due("it lost all units", 0, x.holds(0, 0));
        Check.due("the other has what it asked for", 1, x.holds(1, 0));
        Check.due("free", 2, x.free(0));
        Check.due("state", 2, x.stateOf(0));
        Check.due("rest", 12, x.restOf(0));
        Check.due("event", -1, x.eventOf(0));
        Check.due("first", 0, x.queuedAt(0, 0));
        Check.due("place stays", 2, x.placeOf(0));
        Check.due("longest: both were in the QUEUE", 2, x.longest(0));
        x.run(4);
        Check.due("it has its units again", 3, x.holds(0, 0));
        Check.due("it waits", 1, x.stateOf(0));
        Check.due("event", 24, x.eventOf(0));
        Check.due("rest", 0, x.restOf(0));
        Check.due("queueing", 4, x.queueing(0));
        Check.due("busy", 24 + 4, x.busy(0));
        x.run(12);
        Check.due("behind the rest it goes on", 29, x.eventOf(0));
    }

    private static void takesSeveral() {
        Check.promise(26, "holds, with several thrown out, the greatest rank first");
        Sandglass x = new Sandglass();
        x.addResource(2, 6);
        int holder = user(x, 2, 50);
        x.start(holder, 4, 0);
        x.start(holder, 9, 1);
        x.start(holder, 6, 2);
        int three = user(x, 3, 5);
        x.start(three, 3, 5);
        x.run(5);
        Check.due("the greatest rank lost", 0, x.holds(1, 0));
        Check.due("the next rank lost", 0, x.holds(2, 0));
        Check.due("the third was not needed", 2, x.holds(0, 0));
        Check.due("holds", 3, x.holds(3, 0));
        Check.due("free", 1, x.free(0));
        Check.due("first, by the rank", 2, x.queuedAt(0, 0));
        Check.due("second", 1, x.queuedAt(0, 1));
        Check.due("longest", 3, x.longest(0));
        Check.due("rest", 46, x.restOf(1));
        Check.due("rest", 47, x.restOf(2));
    }

    private static void takesTheLatest() {
        Check.promise(26, "holds, of several with one rank the latest is thrown out");
        Sandglass x = new Sandglass();
        x.addResource(2, 3);
        int holder = user(x, 1, 50);
        x.start(holder, 5, 1);
        x.start(holder, 5, 2);
        x.start(holder, 5, 0);
        x.start(holder, 4, 5);
        x.start(holder, 4, 6);
        x.run(5);
        Check.due("the one that got units last lost", 0, x.holds(1, 0));
        x.run(1);
        Check.due("then the one before", 0, x.holds(0, 0));
        Check.due("the earliest keeps", 1, x.holds(2, 0));
        Check.due("with equal ranks, the one who came first", 1, x.queuedAt(0, 0));
    }

    private static void takesTheLatestThatGotAgain() {
        Check.promise(26, "holds, getting more units counts as getting units last");
        Sandglass x = new Sandglass();
        x.addResource(2, 3);
        x.addResource(2, 9);
        int twice = Check.script(x, Check.seize(0, 1), Check.pause(4, 0), Check.seize(0, 1),
                Check.pause(50, 0));
        int once = Check.script(x, Check.seize(0, 1), Check.pause(6, 0), Check.seize(1, 1),
                Check.pause(50, 0));
        x.start(twice, 5, 0);
        x.start(once, 5, 2);
        int urgent = user(x, 1, 5);
        x.start(urgent, 0, 9);
        x.run(9);
        Check.due("the one that got more at 4 lost both", 0, x.holds(0, 0));
        Check.due("units of another resource do not count", 1, x.holds(1, 0));
        Check.due("free", 1, x.free(0));
        Check.due("queued", 1, x.queued(0));
        Check.due("it asks for both: cancel frees none of them", 0, x.cancel(0));
    }

    private static void takesNothing() {
        Check.promise(28, "queued, as all VICTIMS have too little");
        Sandglass x = new Sandglass();
        x.addResource(2, 4);
        int two = user(x, 2, 20);
        x.start(two, 3, 0);
        x.start(two, 8, 0);
        int three = user(x, 3, 5);
        x.start(three, 5, 4);
        x.run(4);
        Check.due("nobody was thrown out", 2, x.holds(1, 0));
        Check.due("queued", 1, x.queued(0));
        Check.due("longest", 1, x.longest(0));
        x.start(two, 5, 0);
        x.run(0);
        Check.due("who is not the first one takes nothing", 2, x.holds(1, 0));
        Check.due("second", 3, x.queuedAt(0, 1));
        x.start(two, 4, 0);
        x.run(0);
        Check.due("who comes first takes", 2, x.holds(4, 0));
        Check.due("thrown out", 0, x.holds(1, 0));
        int[] due = {2, 3, 1};
        for (int i = 0; i < due.length; i++) {
            Check.due("place " + i, due[i], x.queuedAt(0, i));
        }
        Check.due("longest", 4, x.longest(0));

        Sandglass y = new Sandglass();
        y.addResource(2, 1);
        int one = user(y, 1, 20);
        y.start(one, 4, 0);
        y.start(one, 4, 1);
        y.run(1);
        Check.due("an equal rank is no VICTIM", 1, y.holds(0, 0));
    }

    private static void victimsOnlyWaiting() {
        Check.promise(28, "queued, as those that hold units are not WAITING");
        Sandglass x = new Sandglass();
        x.addResource(2, 2);
        x.addResource(0, 1);
        int awaiting = Check.script(x, Check.seize(0, 1), Check.await(0));
        int queued = Check.script(x, Check.seize(0, 1), Check.seize(1, 1), Check.await(0));
        int holder = Check.script(x, Check.seize(1, 1), Check.await(1));
        int urgent = user(x, 1, 5);
        x.start(holder, 9, 0);
        x.start(awaiting, 9, 0);
        x.start(queued, 9, 0);
        x.start(urgent, 0, 1);
        x.run(1);
        Check.due("neither AWAITING nor QUEUED ones lose units", 0, x.free(0));
        Check.due("queued", 1, x.queued(0));
        Check.due("state", 2, x.stateOf(3));

        Sandglass y = new Sandglass();
        y.addResource(2, 1);
        int waiting = Check.script(y, Check.seize(0, 1), Check.pause(9, 0), Check.await(0));
        urgent = user(y, 1, 5);
        y.start(waiting, 9, 0);
        y.run(2);
        y.interrupt(0);
        y.start(urgent, 0, 0);
        Check.due("step of the one interrupted", 0, y.step());
        Check.due("step", 1, y.step());
        Check.due("AWAITING: not thrown out", 1, y.holds(0, 0));

        Sandglass z = new Sandglass();
        z.addResource(2, 1);
        waiting = Check.script(z, Check.seize(0, 1), Check.pause(9, 0), Check.await(0));
        urgent = user(z, 1, 5);
        z.start(waiting, 9, 0);
        z.start(urgent, 0, 2);
        z.run(1);
        z.run(0);
        z.interrupt(0);
        z.cancel(1);
        z.start(urgent, 0, 0);
        Check.due("step", 0, z.step());
        Check.due("step", 2, z.step());
        Check.due("queued", 1, z.queued(0));
    }

    private static void otherKindsDoNotTake() {
        Check.promise(2, "addResource: only the kind 2 takes");
        for (int kind = 0; kind <= 2; kind++) {
            Sandglass x = new Sandglass();
            x.addResource(kind, 1);
            int one = user(x, 1, 20);
            x.start(one, 9, 0);
            x.start(one, 0, 1);
            x.run(1);
            Check.due("kind " + kind, kind == 2 ? 0 : 1, x.holds(0, 0));
        }
    }

    private static void takenServes() {
        Check.promise(26, "holds, behind a taking the QUEUE is served");
        Sandglass x = new Sandglass();
        x.addResource(2, 5);
        int low = Check.script(x, Check.seize(0, 4), Check.pause(40, 0));
        int firm = Check.script(x, Check.seize(0, 1), Check.await(3));
        int two = user(x, 2, 30);
        int one = user(x, 1, 30);
        int narrow = Check.script(x, Check.seize(0, 2), Check.pause(0, 0), Check.signal(2),
                Check.pause(9, 0));
        x.start(low, 7, 0);
        x.start(firm, 0, 0);
        x.start(two, 8, 1);
        x.start(one, 7, 1);
        x.run(1);
        Check.due("queued", 2, x.queued(0));
        x.start(narrow, 2, 1);
        Check.due("run", 3, x.run(1));
        Check.due("taken", 2, x.holds(4, 0));
        Check.due("the one of rank 7 that came ahead is served", 1, x.holds(3, 0));
        Check.due("the one thrown out came behind it, asking for 4", 0, x.queuedAt(0, 0));
        Check.due("the last", 2, x.queuedAt(0, 1));
        Check.due("free", 1, x.free(0));
        Check.due("longest", 4, x.longest(0));
    }

    private static void thrownOutGoesOn() {
        Check.promise(23, "restOf, of one that was thrown out twice");
        Sandglass x = new Sandglass();
        x.addResource(2, 1);
        int low = Check.script(x, Check.seize(0, 1), Check.pause(30, 0), Check.seize(0, 1),
                Check.mark());
        int urgent = user(x, 1, 10);
        x.start(low, 9, 0);
        x.start(urgent, 3, 5);
        x.start(urgent, 3, 20);
        x.run(5);
        Check.due("rest", 25, x.restOf(0));
        x.run(10);
        Check.due("event", 40, x.eventOf(0));
        Check.due("rest", 0, x.restOf(0));
        x.run(5);
        Check.due("rest", 20, x.restOf(0));
        x.run(10);
        Check.due("event", 50, x.eventOf(0));
        x.run(20);
        Check.due("it asks for a unit that it holds itself", 2, x.stateOf(0));
        Check.due("holds", 1, x.holds(0, 0));
        Check.due("time", 50, x.time());
    }

    private static void thrownOutInterrupted() {
        Check.promise(12, "interrupt of one that was thrown out");
        Sandglass x = new Sandglass();
        x.addResource(2, 2);
        int low = Check.script(x, Check.seize(0, 2), Check.pause(30, 0), Check.seize(0, 1),
                Check.rest());
        int urgent = user(x, 1, 10);
        int later = user(x, 1, 10);
        x.start(low, 5, 0);
        x.start(urgent, 3, 5);
        x.start(later, 5, 6);
        x.run(6);
        Check.due("queued", 2, x.queued(0));
        Check.due("rest", 25, x.interrupt(0));
        Check.due("queued", 0, x.queued(0));
        Check.due("served ahead", 2, x.step());
        Check.due("step", 0, x.step());
        Check.due("it asks anew, as any other", 2, x.stateOf(0));
        Check.due("rest stays", 25, x.restOf(0));
        Check.due("holds", 0, x.holds(0, 0));
        x.run(9);
        Check.due("READY, then resting", 1, x.stateOf(0));
        Check.due("event", 40, x.eventOf(0));
        Check.due("holds", 1, x.holds(0, 0));
    }

    private static void endReleases() {
        Check.promise(20, "stateOf ENDED: all units are released, resource by resource");
        Sandglass x = new Sandglass();
        x.addResource(0, 1);
        x.addResource(0, 1);
        int both = Check.script(x, Check.seize(1, 1), Check.seize(0, 1), Check.pause(3, 0));
        int second = Check.script(x, Check.seize(1, 1), Check.await(0));
        int first = Check.script(x, Check.seize(0, 1), Check.await(0));
        x.start(both, 0, 0);
        x.start(second, 0, 1);
        x.start(first, 0, 2);
        x.run(2);
        Check.due("step", 0, x.step());
        Check.due("state", 5, x.stateOf(0));
        Check.due("resource 0 first", 2, x.step());
        Check.due("then resource 1", 1, x.step());
        Check.due("busy of 0", 3, x.busy(0));
    }

    private static void askingThrows() {
        Check.promise(27, "asking for resources that there are not: promises 27 to 32");
        Sandglass x = new Sandglass();
        x.addResource(0, 1);
        int user = user(x, 1, 5);
        x.start(user, 0, 0);
        x.start(user, 0, 0);
        x.run(1);
        int[] none = {-1, 1, 6, Integer.MIN_VALUE, Integer.MAX_VALUE};
        for (int r : none) {
            Check.dueThrow(Check.INDEX, x, "free(" + r + ")", () -> x.free(r));
            Check.dueThrow(Check.INDEX, x, "queued(" + r + ")", () -> x.queued(r));
            Check.dueThrow(Check.INDEX, x, "queuedAt(" + r + ", 0)", () -> x.queuedAt(r, 0));
            Check.dueThrow(Check.INDEX, x, "queuedAt(0, " + r + ")", () -> x.queuedAt(0, r));
            Check.dueThrow(Check.INDEX, x, "busy(" + r + ")", () -> x.busy(r));
            Check.dueThrow(Check.INDEX, x, "queueing(" + r + ")", () -> x.queueing(r));
            Check.dueThrow(Check.INDEX, x, "longest(" + r + ")", () -> x.longest(r));
        }
        Check.due("queuedAt", 1, x.queuedAt(0, 0));
    }
}
