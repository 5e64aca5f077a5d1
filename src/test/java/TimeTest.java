/** Promises 9 to 13: processes and time. */
public final class TimeTest {

    public static void main(String[] args) {
        start();
        startMark();
        step();
        orderOfEvents();
        run();
        runStopsAt400();
        interruptStates();
        interruptWaiting();
        interruptServesFirst();
        interruptOfAStore();
        cancel();
        cancelServes();
        Check.end();
    }

    private static void start() {
        Check.promise(9, "start");
        Sandglass x = new Sandglass();
        Check.dueThrow(Check.INDEX, x, "no script", () -> x.start(0, 0, 0));
        x.addScript();
        Check.dueThrow(Check.INDEX, x, "script -1", () -> x.start(-1, 0, 0));
        Check.dueThrow(Check.INDEX, x, "script 1, wrong rank", () -> x.start(1, 10, 0));
        Check.dueThrow(Check.ARGUMENT, x, "rank -1", () -> x.start(0, -1, 0));
        Check.dueThrow(Check.ARGUMENT, x, "rank 10", () -> x.start(0, 10, 0));
        Check.dueThrow(Check.ARGUMENT, x, "delay -1", () -> x.start(0, 0, -1));
        Check.dueThrow(Check.ARGUMENT, x, "delay 1000", () -> x.start(0, 0, 1000));
        for (int i = 0; i < 24; i++) {
            Check.due("its number", i, x.start(0, i % 10, i == 0 ? 999 : i));
            Check.due("state", 0, x.stateOf(i));
            Check.due("rank", i % 10, x.rankOf(i));
            Check.due("place", 0, x.placeOf(i));
            Check.due("rest", 0, x.restOf(i));
            Check.due("mark", 0, x.markOf(i));
            Check.due("event", i == 0 ? 999 : i, x.eventOf(i));
            Check.due("events", i + 1, x.events());
        }
        Check.due("processes", 24, x.processes());
        Check.dueThrow(Check.STATE, x, "a 25th", () -> x.start(0, 0, 0));
        Check.dueThrow(Check.ARGUMENT, x, "a wrong 25th", () -> x.start(0, 0, 1000));
        Check.dueThrow(Check.INDEX, x, "a 25th without a script", () -> x.start(1, 0, 0));
        x.run(999);
        Check.dueThrow(Check.STATE, x, "a 25th behind their end", () -> x.start(0, 0, 0));
    }

    private static void startMark() {
        Check.promise(9, "the mark is the time of the start");
        Sandglass x = new Sandglass();
        x.addScript();
        x.run(40);
        x.start(0, 0, 5);
        Check.due("mark", 40, x.markOf(0));
        Check.due("event", 45, x.eventOf(0));
        x.run(5);
        Check.due("mark", 40, x.markOf(0));
    }

    private static void step() {
        Check.promise(10, "step");
        Sandglass x = new Sandglass();
        Check.dueThrow(Check.STATE, x, "step without an event", x::step);
        Check.script(x, Check.pause(7, 0), Check.await(0));
        x.start(0, 0, 4);
        x.start(0, 0, 2);
        Check.due("step", 1, x.step());
        Check.due("time", 2, x.time());
        Check.due("step", 0, x.step());
        Check.due("time", 4, x.time());
        Check.due("step", 1, x.step());
        Check.due("time", 9, x.time());
        Check.due("awaiting", 1, x.awaiting(0));
        Check.due("step", 0, x.step());
        Check.dueThrow(Check.STATE, x, "step with none left", x::step);
        Check.due("time", 11, x.time());
    }

    private static void orderOfEvents() {
        Check.promise(10, "events at the same time go as they were made");
        Sandglass x = new Sandglass();
        Check.script(x, Check.pause(3, 0), Check.pause(0, 0));
        x.start(0, 9, 3);
        x.start(0, 0, 0);
        x.start(0, 5, 3);
        Check.due("the only one at 0", 1, x.step());
        Check.due("made first", 0, x.step());
        Check.due("made next", 2, x.step());
        Check.due("made as 1 went on", 1, x.step());
        Check.due("1 again, at 3 still", 1, x.step());
        Check.due("time", 3, x.time());
        Check.due("state", 5, x.stateOf(1));
        Check.due("events", 2, x.events());
        x.run(3);
        Check.due("time", 6, x.time());
        Check.due("events", 0, x.events());
    }

    private static void run() {
        Check.promise(11, "run");
        Sandglass x = new Sandglass();
        Check.dueThrow(Check.ARGUMENT, x, "-1 ticks", () -> x.run(-1));
        Check.dueThrow(Check.ARGUMENT, x, "1000 ticks", () -> x.run(1000));
        Check.due("run without events", 0, x.run(999));
        Check.due("time", 999, x.time());
        Check.due("run(0)", 0, x.run(0));
        Check.due("time", 999, x.time());
        Check.script(x, Check.pause(10, 0), Check.again(0, 20));
        x.start(0, 0, 0);
        Check.due("run(0) with an event now", 1, x.run(0));
        Check.due("run(9)", 0, x.run(9));
        Check.due("time", 1008, x.time());
        Check.due("run(1), up to the event's own tick", 1, x.run(1));
        Check.due("time", 1009, x.time());
        Check.due("run(25)", 2, x.run(25));
        Check.due("time", 1034, x.time());
    }

    private static void runStopsAt400() {
        Check.promise(11, "at most 400 events");
        Sandglass x = new Sandglass();
        Check.script(x, Check.pause(0, 0), Check.again(0, 20), Check.again(0, 20));
        x.start(0, 0, 5);
        Check.due("run(999)", 400, x.run(999));
        Check.due("time, as there are more", 5, x.time());
        Check.due("run(0)", 42, x.run(0));
        Check.due("time", 5, x.time());
        Check.due("state", 5, x.stateOf(0));

        Sandglass y = new Sandglass();
        Check.script(y, Check.pause(0, 0), Check.again(0, 17), Check.again(0, 20));
        y.addScript();
        y.start(0, 0, 5);
        for (int i = 0; i < 21; i++) {
            y.start(1, 0, 0);
        }
        Check.due("exactly 400 events", 400, y.run(999));
        Check.due("time, as there are no more", 999, y.time());
    }

    private static void interruptStates() {
        Check.promise(12, "interrupt throws in other states");
        Sandglass x = new Sandglass();
        x.addResource(0, 1);
        Check.script(x, Check.pause(5, 0), Check.await(0));
        Check.script(x, Check.seize(0, 2));
        Check.dueThrow(Check.INDEX, x, "no process", () -> x.interrupt(0));
        x.start(0, 0, 1);
        x.start(1, 0, 1);
        x.start(0, 0, 1);
        x.start(0, 0, 1);
        x.cancel(2);
        Check.dueThrow(Check.INDEX, x, "process -1", () -> x.interrupt(-1));
        Check.dueThrow(Check.INDEX, x, "process 4", () -> x.interrupt(4));
        Check.dueThrow(Check.STATE, x, "interrupt of one READY", () -> x.interrupt(0));
        Check.dueThrow(Check.STATE, x, "interrupt of one CANCELLED", () -> x.interrupt(2));
        x.run(1);
        Check.dueThrow(Check.STATE, x, "interrupt of one BROKEN", () -> x.interrupt(1));
        Check.due("interrupt of one WAITING", 5, x.interrupt(0));
        Check.dueThrow(Check.STATE, x, "interrupt of one READY again", () -> x.interrupt(0));
        x.run(0);
        Check.due("state", 4, x.stateOf(0));
        Check.due("interrupt of one AWAITING", 5, x.interrupt(0));
        Check.due("awaiting", 0, x.awaiting(0));
        x.run(0);
        Check.due("state", 5, x.stateOf(0));
        Check.dueThrow(Check.STATE, x, "interrupt of one ENDED", () -> x.interrupt(0));
    }

    private static void interruptWaiting() {
        Check.promise(12, "interrupt of one that waits");
        Sandglass x = new Sandglass();
        x.addResource(1, 3);
        Check.script(x, Check.seize(0, 2), Check.pause(20, 0), Check.await(3), Check.rest(),
                Check.rank(8));
        x.start(0, 2, 0);
        x.run(7);
        Check.due("its rest", 13, x.interrupt(0));
        Check.due("rest", 13, x.restOf(0));
        Check.due("place without a handler", 2, x.placeOf(0));
        Check.due("state", 0, x.stateOf(0));
        Check.due("event", 7, x.eventOf(0));
        Check.due("events", 1, x.events());
        Check.due("holds as before", 2, x.holds(0, 0));
        x.step();
        Check.due("awaiting", 1, x.awaiting(3));
        Check.due("the handler before", -1, x.setHandler(0, 3));
        Check.due("its rest, untouched", 13, x.interrupt(0));
        Check.due("place", 3, x.placeOf(0));
        x.step();
        Check.due("waits for the rest", 20, x.eventOf(0));
        Check.due("state", 1, x.stateOf(0));
        Check.due("rest", 0, x.restOf(0));
        x.setHandler(0, 15);
        x.run(13);
        Check.due("rank", 8, x.rankOf(0));
        Check.due("ended at", 20, x.time());
        Check.due("free", 3, x.free(0));

        x.start(0, 2, 0);
        x.run(20);
        Check.due("place", 3, x.placeOf(1));
        x.interrupt(1);
        Check.due("a handler that there is not", 15, x.placeOf(1));
        x.step();
        Check.due("it has ended", 5, x.stateOf(1));
        Check.due("place", 15, x.placeOf(1));
    }

    private static void interruptServesFirst() {
        Check.promise(12, "what it leaves is served ahead of its being READY");
        Sandglass x = new Sandglass();
        x.addResource(0, 3);
        int holder = Check.script(x, Check.seize(0, 2), Check.pause(90, 0));
        int wide = Check.script(x, Check.seize(0, 2), Check.pause(9, 0));
        int narrow = Check.script(x, Check.seize(0, 1), Check.pause(9, 0));
        x.start(holder, 0, 0);
        x.start(wide, 0, 0);
        x.start(narrow, 0, 0);
        x.run(4);
        Check.due("queued", 2, x.queued(0));
        Check.due("its rest", 0, x.interrupt(1));
        Check.due("queued", 0, x.queued(0));
        Check.due("the next has got units", 1, x.holds(2, 0));
        Check.due("it has none", 0, x.holds(1, 0));
        Check.due("state", 0, x.stateOf(1));
        Check.due("place behind the SEIZE", 1, x.placeOf(1));
        Check.due("the one served goes on first", 2, x.step());
        Check.due("then the one interrupted", 1, x.step());
        Check.due("time", 4, x.time());
        Check.due("longest", 2, x.longest(0));
        Check.due("queueing", 8, x.queueing(0));
    }

    private static void interruptOfAStore() {
        Check.promise(12, "interrupt of one BLOCKED");
        Sandglass x = new Sandglass();
        x.addStore(10, 8);
        int wide = Check.script(x, Check.put(0, 5), Check.await(0));
        int narrow = Check.script(x, Check.put(0, 2), Check.await(1));
        x.setHandler(wide, 0);
        x.start(wide, 0, 0);
        x.start(narrow, 0, 0);
        x.run(0);
        Check.due("blocked", 2, x.blocked(0, false));
        Check.due("its rest", 0, x.interrupt(0));
        Check.due("blocked", 0, x.blocked(0, false));
        Check.due("level: the one behind has put", 10, x.level(0));
        Check.due("place is the handler", 0, x.placeOf(0));
        Check.due("the other one first", 1, x.step());
        Check.due("then the one interrupted", 0, x.step());
        Check.due("state: it puts again", 3, x.stateOf(0));

        Sandglass y = new Sandglass();
        y.addStore(10, 2);
        int many = Check.script(y, Check.get(0, 5), Check.await(0));
        int few = Check.script(y, Check.get(0, 2), Check.await(1));
        y.start(many, 0, 0);
        y.start(few, 0, 0);
        y.run(0);
        Check.due("blocked with a GET", 2, y.blocked(0, true));
        y.interrupt(0);
        Check.due("level: nothing was taken but by the other", 0, y.level(0));
        Check.due("order", 1, y.step());
        Check.due("order", 0, y.step());
        Check.due("awaiting 0", 1, y.awaiting(0));
    }

    private static void cancel() {
        Check.promise(13, "cancel");
        Sandglass x = new Sandglass();
        x.addResource(0, 4);
        x.addResource(2, 3);
        Check.dueThrow(Check.INDEX, x, "no process", () -> x.cancel(0));
        Check.script(x, Check.seize(0, 3), Check.seize(1, 2), Check.pause(9, 0), Check.await(2));
        x.start(0, 0, 0);
        x.start(0, 0, 5);
        Check.dueThrow(Check.INDEX, x, "process -1", () -> x.cancel(-1));
        Check.dueThrow(Check.INDEX, x, "process 2", () -> x.cancel(2));
        x.run(2);
        Check.due("a READY one holds nothing", 0, x.cancel(1));
        Check.due("state", 7, x.stateOf(1));
        Check.due("event", -1, x.eventOf(1));
        Check.due("all units that it held", 5, x.cancel(0));
        Check.due("state", 7, x.stateOf(0));
        Check.due("free", 4, x.free(0));
        Check.due("free", 3, x.free(1));
        Check.due("holds", 0, x.holds(0, 0));
        Check.due("events", 0, x.events());
        Check.due("place stays", 3, x.placeOf(0));
        Check.dueThrow(Check.STATE, x, "cancel of one CANCELLED", () -> x.cancel(0));
        x.start(0, 0, 0);
        x.run(20);
        Check.due("awaiting", 1, x.awaiting(2));
        Check.due("cancel of one AWAITING", 5, x.cancel(2));
        Check.due("awaiting", 0, x.awaiting(2));
        int empty = x.addScript();
        int greedy = Check.script(x, Check.seize(0, 5));
        x.start(empty, 0, 0);
        x.start(greedy, 0, 0);
        x.run(0);
        Check.dueThrow(Check.STATE, x, "cancel of one ENDED", () -> x.cancel(3));
        Check.dueThrow(Check.STATE, x, "cancel of one BROKEN", () -> x.cancel(4));
    }

    private static void cancelServes() {
        Check.promise(13, "first it leaves what it is in, then it releases, resource by resource");
        Sandglass x = new Sandglass();
        x.addResource(0, 2);
        x.addResource(0, 2);
        int both = Check.script(x, Check.seize(1, 2), Check.seize(0, 1), Check.pause(50, 0));
        int one = Check.script(x, Check.seize(0, 1), Check.pause(50, 0));
        int two = Check.script(x, Check.seize(0, 2), Check.pause(50, 0));
        int other = Check.script(x, Check.seize(1, 1), Check.pause(50, 0));
        x.start(both, 0, 0);
        x.start(other, 0, 0);
        x.start(two, 0, 0);
        x.start(one, 0, 0);
        x.start(one, 0, 0);
        x.run(3);
        Check.due("free of 0", 1, x.free(0));
        Check.due("first of 0", 2, x.queuedAt(0, 0));
        Check.due("cancel", 0, x.cancel(2));
        Check.due("the next of 0 was served", 1, x.holds(3, 0));
        Check.due("the last of 0 waits", 4, x.queuedAt(0, 0));
        Check.due("step", 3, x.step());
        Check.due("cancel", 3, x.cancel(0));
        Check.due("served of 0 first", 4, x.step());
        Check.due("served of 1 then", 1, x.step());

        Sandglass y = new Sandglass();
        y.addResource(0, 2);
        y.addStore(9, 0);
        int taker = Check.script(y, Check.seize(0, 2), Check.get(0, 5), Check.pause(1, 0));
        int getter = Check.script(y, Check.get(0, 1), Check.pause(1, 0));
        int putter = Check.script(y, Check.put(0, 1), Check.pause(1, 0));
        int queuer = Check.script(y, Check.seize(0, 1), Check.pause(1, 0));
        y.start(taker, 0, 0);
        y.start(getter, 0, 0);
        y.start(queuer, 0, 0);
        y.start(putter, 0, 0);
        y.run(0);
        Check.due("level", 1, y.level(0));
        Check.due("cancel of one BLOCKED", 2, y.cancel(0));
        Check.due("the GET behind it is done", 0, y.level(0));
        Check.due("left the store first", 1, y.step());
        Check.due("released then", 2, y.step());
    }
}
