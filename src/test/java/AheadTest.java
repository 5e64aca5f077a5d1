/** Promises 16 and 17, and 42 to 44: what would be, and that nothing is changed. */
public final class AheadTest {

    public static void main(String[] args) {
        eventsAndNextTime();
        endOf();
        endOfOneThatIsOver();
        endOfBroken();
        endOfThrows();
        wouldBeBusy();
        wouldBeBusyAsFarAsRunGoes();
        nothingChanges();
        asItComes();
        throwingOutAhead();
        digest();
        Check.end();
    }

    private static void eventsAndNextTime() {
        Check.promise(16, "events, and 17 nextTime");
        Sandglass x = new Sandglass();
        Check.script(x, Check.pause(5, 0), Check.await(0));
        x.start(0, 0, 9);
        Check.due("events", 1, x.events());
        Check.due("nextTime", 9, x.nextTime());
        x.start(0, 0, 3);
        Check.due("events", 2, x.events());
        Check.due("nextTime", 3, x.nextTime());
        x.step();
        Check.due("events", 2, x.events());
        Check.due("nextTime", 8, x.nextTime());
        x.step();
        Check.due("events: those that await have none", 1, x.events());
        Check.due("nextTime", 9, x.nextTime());
        x.cancel(0);
        Check.due("events", 0, x.events());
        Check.due("nextTime", -1, x.nextTime());
        Check.due("time", 8, x.time());
    }

    private static void endOf() {
        Check.promise(42, "endOf");
        Sandglass x = new Sandglass();
        x.addResource(0, 1);
        Check.script(x, Check.seize(0, 1), Check.pause(10, 0));
        x.start(0, 0, 2);
        x.start(0, 0, 3);
        Check.due("too few events", -1, x.endOf(0, 1));
        Check.due("too few events", -1, x.endOf(0, 2));
        Check.due("2, 3, 12", 12, x.endOf(0, 3));
        Check.due("2, 3, 12, 12", -1, x.endOf(1, 4));
        Check.due("2, 3, 12, 12, 22", 22, x.endOf(1, 5));
        Check.due("100 events", 22, x.endOf(1, 100));
        Check.due("time", 0, x.time());
        Sandglass y = new Sandglass();
        Check.script(y, Check.await(0));
        y.start(0, 0, 7);
        Check.due("it never ends", -1, y.endOf(0, 100));
    }

    private static void endOfOneThatIsOver() {
        Check.promise(42, "endOf one that is over: the TIME");
        Sandglass x = new Sandglass();
        x.addResource(0, 1);
        x.addScript();
        Check.script(x, Check.seize(0, 2));
        x.start(0, 0, 4);
        x.start(0, 0, 900);
        x.start(1, 0, 4);
        x.cancel(1);
        x.run(4);
        Check.due("ENDED", 4, x.endOf(0, 1));
        Check.due("CANCELLED", 4, x.endOf(1, 1));
        Check.due("BROKEN", 4, x.endOf(2, 1));
        x.run(50);
        Check.due("ENDED", 54, x.endOf(0, 100));
    }

    private static void endOfBroken() {
        Check.promise(42, "endOf one that would be BROKEN");
        Sandglass x = new Sandglass();
        x.addResource(0, 1);
        Check.script(x, Check.pause(9, 0), Check.seize(0, 2));
        x.start(0, 0, 0);
        Check.due("endOf", 9, x.endOf(0, 2));
        Check.due("state", 0, x.stateOf(0));
        Check.due("done", 0, x.done());
    }

    private static void endOfThrows() {
        Check.promise(42, "endOf, wrong inputs");
        Sandglass x = new Sandglass();
        x.addScript();
        x.start(0, 0, 0);
        Check.dueThrow(Check.INDEX, x, "endOf(-1, 5)", () -> x.endOf(-1, 5));
        Check.dueThrow(Check.INDEX, x, "endOf(1, 0)", () -> x.endOf(1, 0));
        Check.dueThrow(Check.ARGUMENT, x, "endOf(0, 0)", () -> x.endOf(0, 0));
        Check.dueThrow(Check.ARGUMENT, x, "endOf(0, 101)", () -> x.endOf(0, 101));
        x.run(0);
        Check.dueThrow(Check.ARGUMENT, x, "endOf(0, 101) behind its end", () -> x.endOf(0, 101));
    }

    private static void wouldBeBusy() {
        Check.promise(43, "wouldBeBusy");
        Sandglass x = new Sandglass();
        x.addResource(0, 3);
        x.addResource(0, 1);
        Check.script(x, Check.seize(0, 2), Check.pause(10, 0));
        x.start(0, 0, 5);
        x.start(0, 0, 6);
        Check.due("0 ticks", 0, x.wouldBeBusy(0, 0));
        Check.due("5 ticks", 0, x.wouldBeBusy(0, 5));
        Check.due("6 ticks", 2, x.wouldBeBusy(0, 6));
        Check.due("999 ticks", 40, x.wouldBeBusy(0, 999));
        Check.due("the other resource", 0, x.wouldBeBusy(1, 999));
        Check.due("busy", 0, x.busy(0));
        x.run(8);
        Check.due("0 ticks", 6, x.wouldBeBusy(0, 0));
        Check.due("8 ticks", 22, x.wouldBeBusy(0, 8));
        Check.due("busy", 6, x.busy(0));
        Check.dueThrow(Check.INDEX, x, "resource -1", () -> x.wouldBeBusy(-1, 5));
        Check.dueThrow(Check.INDEX, x, "resource 2", () -> x.wouldBeBusy(2, -1));
        Check.dueThrow(Check.ARGUMENT, x, "-1 ticks", () -> x.wouldBeBusy(0, -1));
        Check.dueThrow(Check.ARGUMENT, x, "1000 ticks", () -> x.wouldBeBusy(0, 1000));
    }

    private static void wouldBeBusyAsFarAsRunGoes() {
        Check.promise(43, "wouldBeBusy, with more than 400 events");
        Sandglass x = new Sandglass();
        x.addResource(0, 1);
        Check.script(x, Check.seize(0, 1), Check.pause(1, 0), Check.again(1, 20),
                Check.again(1, 20));
        x.start(0, 0, 0);
        Check.due("400 events end at 399", 399, x.wouldBeBusy(0, 999));
        x.run(999);
        Check.due("busy", 399, x.busy(0));
    }

    /** Trying goes through all instructions, and yet leaves no trace. */
    private static void nothingChanges() {
        Check.promise(42, "endOf and wouldBeBusy change nothing");
        Sandglass x = new Sandglass();
        x.addResource(2, 2);
        x.addStore(9, 4);
        x.addTally(1);
        int other = Check.script(x, Check.await(1), Check.get(0, 9));
        int busy = Check.script(x, Check.rank(1), Check.seize(0, 2), Check.pause(3, 9),
                Check.tally(0), Check.mark(), Check.put(0, 1), Check.signal(1),
                Check.spawn(other, 3), Check.release(0, 1), Check.rest(), Check.again(0, 5));
        x.start(other, 0, 0);
        x.start(busy, 5, 0);
        x.start(busy, 7, 1);
        for (int i = 0; i < 60 && x.events() > 0; i++) {
            long before = x.digest();
            double spread = x.spread(0);
            int free = x.wouldBeBusy(0, 20);
            x.endOf(0, 100);
            x.endOf(1, 17);
            Check.due("the digest", before, x.digest());
            Check.due("spread", spread, x.spread(0));
            Check.due("tried again", free, x.wouldBeBusy(0, 20));
            x.step();
        }
        Check.due("one was spawned at least", 1, x.processes() > 3 ? 1 : 0);
    }

    /** What is foretold on one object is what then comes on another one made by the same calls. */
    private static void asItComes() {
        Check.promise(42, "endOf, and 43 wouldBeBusy, against what comes");
        for (int luck = 0; luck < 4; luck++) {
            for (int steps = 0; steps < 90; steps++) {
                Sandglass ahead = crowd(luck, steps);
                for (int p = 0; p < ahead.processes(); p += 2) {
                    int most = 1 + (steps * 7 + p * 5) % 100;
                    Sandglass comes = crowd(luck, steps);
                    Check.due("endOf(" + p + ", " + most + ") behind " + steps + " steps",
                            endThatComes(comes, p, most), ahead.endOf(p, most));
                }
                for (int ticks = 0; ticks < 60; ticks += 7) {
                    Sandglass comes = crowd(luck, steps);
                    comes.run(ticks);
                    for (int r = 0; r < 3; r++) {
                        Check.due("wouldBeBusy(" + r + ", " + ticks + ") behind " + steps,
                                comes.busy(r), ahead.wouldBeBusy(r, ticks));
                    }
                }
            }
        }
    }

    private static int endThatComes(Sandglass x, int process, int most) {
        for (int i = 0; i < most && x.stateOf(process) < 5 && x.events() > 0; i++) {
            x.step();
        }
        return x.stateOf(process) < 5 ? -1 : x.time();
    }

    /** Resources of each kind, a store and signals, with a crowd that fights for them. */
    private static Sandglass crowd(int luck, int steps) {
        Sandglass x = new Sandglass();
        x.addResource(2, 3);
        x.addResource(1, 2);
        x.addResource(0, 2);
        x.addStore(8, 3);
        x.addTally(2);
        x.setLuck(luck * 1111);
        int taker = Check.script(x, Check.seize(0, 2), Check.pause(4, 9), Check.release(0, 1),
                Check.pause(2, 3), Check.rank(4), Check.again(0, 2));
        int maker = Check.script(x, Check.seize(1, 1), Check.pause(3, 5), Check.put(0, 3),
                Check.release(1, 1), Check.signal(1), Check.again(0, 3));
        int eater = Check.script(x, Check.seize(2, 1), Check.get(0, 2), Check.pause(1, 4),
                Check.tally(0), Check.release(2, 1), Check.skip(0, 4), Check.await(1),
                Check.again(0, 3));
        int parent = Check.script(x, Check.pause(9, 9), Check.spawn(taker, 1), Check.rest(),
                Check.seize(1, 2), Check.seize(0, 1), Check.pause(6, 2), Check.again(0, 1));
        x.setHandler(taker, 3);
        x.setHandler(parent, 2);
        for (int i = 0; i < 12; i++) {
            int[] scripts = {taker, maker, eater, parent};
            x.start(scripts[i % 4], (i * 7) % 10, (i * 3) % 5);
        }
        for (int i = 0; i < steps && x.events() > 0; i++) {
            x.step();
            int p = (i * 5) % 12;
            if (i % 6 == 3 && x.stateOf(p) > 0 && x.stateOf(p) < 5) {
                x.interrupt(p);
            }
        }
        return x;
    }

    private static void throwingOutAhead() {
        Check.promise(42, "endOf, with one that was or would be thrown out");
        Sandglass x = new Sandglass();
        x.addResource(2, 1);
        int low = Check.script(x, Check.seize(0, 1), Check.pause(30, 0));
        int urgent = Check.script(x, Check.seize(0, 1), Check.pause(10, 0));
        x.start(low, 9, 0);
        x.start(urgent, 3, 5);
        Check.due("to be thrown out at 5", 40, x.endOf(0, 100));
        Check.due("to be busy", 40, x.wouldBeBusy(0, 99));
        x.run(5);
        Check.due("thrown out at 5", 40, x.endOf(0, 100));
        Check.due("busy to be", 10 + 25 + 5, x.wouldBeBusy(0, 99));
        Check.due("it is in the QUEUE still", 2, x.stateOf(0));

        Sandglass y = new Sandglass();
        y.addResource(2, 2);
        low = Check.script(y, Check.seize(0, 1), Check.pause(30, 0));
        urgent = Check.script(y, Check.seize(0, 1), Check.pause(10, 0));
        y.start(low, 9, 0);
        y.start(low, 9, 1);
        y.start(urgent, 3, 5);
        y.run(2);
        Check.due("the first one keeps its unit", 30, y.endOf(0, 100));
        Check.due("the one that got units last does not", 41, y.endOf(1, 100));
    }

    private static void digest() {
        Check.promise(44, "digest");
        Sandglass x = new Sandglass();
        x.addResource(1, 2);
        x.addResource(0, 1);
        x.addStore(9, 4);
        x.addTally(2);
        x.setLuck(5);
        int user = Check.script(x, Check.pause(3, 0), Check.tally(0), Check.seize(0, 2),
                Check.pause(6, 0));
        int getter = Check.script(x, Check.put(0, 2), Check.get(0, 7), Check.await(0));
        int waiter = Check.script(x, Check.await(2));
        x.start(user, 3, 0);
        x.start(user, 4, 1);
        x.start(user, 4, 2);
        x.start(getter, 5, 0);
        x.start(waiter, 6, 0);
        x.run(5);
        long[] told = {
            5, 5, 1, 9, 5, 3 * 3 + 2 + 1 + 1,
            1, 4, 3, 0, 0, 9, 2, 0,
            2, 3, 4, 0, 0, -1, 0, 0,
            2, 3, 4, 0, 0, -1, 0, 0,
            3, 2, 5, 0, 0, -1, 0, 0,
            4, 1, 6, 0, 0, -1, 0, 0,
            0, 2, 1, 2, 4, 1, 2,
            1, 0, 0, 0, 0,
            6, 0, 1, 30,
            0, 0, 1, 0,
            3, 12, 3, 5, 5, 1, 7,
        };
        long d = 58032;
        for (long t : told) {
            d = d * 31 + t;
        }
        Check.due("digest", d, x.digest());
        Check.due("digest again", d, x.digest());
    }
}
