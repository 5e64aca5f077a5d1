/** The terms 2 and 3: how an event goes, and each instruction; with them promises 14 to 25. */
public final class InstructionTest {

    public static void main(String[] args) {
        waitPlain();
        waitDrawn();
        drawnBelow();
        fortyInstructions();
        fortyAndTheEnd();
        fortyAndAStop();
        signalAndAwait();
        signalOfNobody();
        spawn();
        spawnWithoutRoom();
        markAndTally();
        again();
        againInside();
        rest();
        rank();
        skip();
        brokenCounts();
        askingThrows();
        Check.end();
    }

    private static void waitPlain() {
        Check.promise(14, "time, with WAIT");
        Sandglass x = new Sandglass();
        Check.script(x, Check.pause(99, 0), Check.pause(0, 0), Check.pause(1, 0));
        x.start(0, 0, 0);
        x.step();
        Check.due("state", 1, x.stateOf(0));
        Check.due("event", 99, x.eventOf(0));
        Check.due("place", 1, x.placeOf(0));
        Check.due("time", 0, x.time());
        Check.due("luck is not drawn with b 0", 0, x.luck());
        x.step();
        Check.due("time", 99, x.time());
        Check.due("WAIT of 0 stops, too", 1, x.stateOf(0));
        Check.due("event", 99, x.eventOf(0));
        x.step();
        Check.due("event", 100, x.eventOf(0));
        Check.due("done", 3, x.done());
        x.step();
        Check.due("state", 5, x.stateOf(0));
        Check.due("place", 3, x.placeOf(0));
        Check.due("done", 3, x.done());
        Check.due("event", -1, x.eventOf(0));
    }

    private static void waitDrawn() {
        Check.promise(15, "luck, with WAIT");
        Sandglass x = new Sandglass();
        Check.script(x, Check.pause(10, 7), Check.pause(0, 50), Check.pause(3, 1));
        x.start(0, 0, 0);
        x.step();
        Check.due("luck", 2777, x.luck());
        Check.due("event", 10 + 2777 % 7, x.eventOf(0));
        x.step();
        int luck = (int) ((2777L * 4621 + 2777) % 10000);
        Check.due("luck", luck, x.luck());
        Check.due("event", 15 + luck % 50, x.eventOf(0));
        int time = x.eventOf(0);
        x.step();
        luck = (int) ((luck * 4621L + 2777) % 10000);
        Check.due("luck is drawn below 1, too", luck, x.luck());
        Check.due("event", time + 3, x.eventOf(0));
    }

    private static void drawnBelow() {
        Check.promise(15, "luck of 9999");
        Sandglass x = new Sandglass();
        Check.script(x, Check.pause(0, 50));
        x.setLuck(9999);
        x.start(0, 0, 0);
        x.step();
        Check.due("luck", (9999 * 4621 + 2777) % 10000, x.luck());
        Check.due("event", (9999 * 4621 + 2777) % 10000 % 50, x.eventOf(0));
    }

    private static void fortyInstructions() {
        Check.promise(19, "done, with 40 instructions by one event");
        Sandglass x = new Sandglass();
        x.addResource(0, 2);
        Check.script(x, Check.seize(0, 2), Check.mark(), Check.again(1, 20), Check.await(0));
        x.start(0, 0, 0);
        x.step();
        Check.due("state", 6, x.stateOf(0));
        Check.due("done", 40, x.done());
        Check.due("place", 2, x.placeOf(0));
        Check.due("free", 2, x.free(0));
        Check.due("event", -1, x.eventOf(0));
    }

    /** 13 times MARK, then AGAIN twice: 14 * 2 + 12 are 40, 14 * 3 - 2 too. */
    private static void fortyAndTheEnd() {
        Check.promise(20, "BROKEN, also if there is no instruction then");
        Sandglass x = new Sandglass();
        int[][] rows = new int[14][];
        for (int i = 0; i < 13; i++) {
            rows[i] = Check.mark();
        }
        rows[13] = Check.again(2, 2);
        Check.script(x, rows);
        x.start(0, 0, 0);
        x.step();
        Check.due("done", 14 + 12 + 12, x.done());
        Check.due("38 instructions and none left: ENDED", 5, x.stateOf(0));

        rows[13] = Check.again(1, 2);
        Sandglass y = new Sandglass();
        Check.script(y, rows);
        y.start(0, 0, 0);
        y.step();
        Check.due("done", 40, y.done());
        Check.due("place", 14, y.placeOf(0));
        Check.due("40 instructions and none left: BROKEN", 6, y.stateOf(0));
    }

    private static void fortyAndAStop() {
        Check.promise(20, "the 40th instruction may stop it");
        for (int last = 0; last < 2; last++) {
            Sandglass x = new Sandglass();
            int[][] rows = new int[15][];
            for (int i = 0; i < 13; i++) {
                rows[i] = Check.mark();
            }
            rows[12] = Check.again(0, 2);
            rows[13] = last == 0 ? Check.pause(5, 0) : Check.mark();
            rows[14] = Check.await(0);
            Check.script(x, rows);
            x.start(0, 0, 0);
            x.step();
            Check.due("done", 40, x.done());
            Check.due("state", last == 0 ? 1 : 6, x.stateOf(0));
            Check.due("events", last == 0 ? 1 : 0, x.events());
            if (last == 0) {
                x.step();
                Check.due("the next event counts anew", 4, x.stateOf(0));
                Check.due("done", 41, x.done());
            }
        }
    }

    private static void signalAndAwait() {
        Check.promise(36, "awaiting, with SIGNAL and AWAIT");
        Sandglass x = new Sandglass();
        int waiter = Check.script(x, Check.await(2), Check.pause(1, 0));
        int other = Check.script(x, Check.await(1), Check.pause(1, 0));
        int sender = Check.script(x, Check.signal(2), Check.pause(2, 0), Check.signal(2));
        x.start(waiter, 0, 3);
        x.start(waiter, 0, 1);
        x.start(waiter, 9, 2);
        x.start(other, 0, 0);
        x.start(sender, 0, 5);
        x.run(4);
        Check.due("awaiting 2", 3, x.awaiting(2));
        Check.due("awaiting 1", 1, x.awaiting(1));
        Check.due("state", 4, x.stateOf(0));
        Check.due("event", -1, x.eventOf(0));
        Check.due("step", 4, x.step());
        Check.due("awaiting 2", 0, x.awaiting(2));
        Check.due("awaiting 1", 1, x.awaiting(1));
        Check.due("state", 0, x.stateOf(0));
        Check.due("event", 5, x.eventOf(0));
        Check.due("the sender went on", 1, x.stateOf(4));
        Check.due("as they came", 1, x.step());
        Check.due("as they came", 2, x.step());
        Check.due("as they came", 0, x.step());
        x.run(50);
        Check.due("the other still waits", 4, x.stateOf(3));
        Check.dueThrow(Check.INDEX, x, "awaiting(-1)", () -> x.awaiting(-1));
        Check.dueThrow(Check.INDEX, x, "awaiting(4)", () -> x.awaiting(4));
    }

    private static void signalOfNobody() {
        Check.promise(36, "a signal is not kept");
        Sandglass x = new Sandglass();
        Check.script(x, Check.signal(3), Check.await(3), Check.signal(3));
        x.start(0, 0, 0);
        x.step();
        Check.due("awaiting", 1, x.awaiting(3));
        Check.due("events", 0, x.events());
    }

    private static void spawn() {
        Check.promise(18, "processes, with SPAWN");
        Sandglass x = new Sandglass();
        int child = Check.script(x, Check.mark(), Check.pause(4, 0));
        int parent = Check.script(x, Check.pause(3, 0), Check.spawn(child, 7), Check.pause(0, 0),
                Check.spawn(1 - child, 2));
        x.start(parent, 1, 0);
        x.start(child, 1, 3);
        x.run(2);
        Check.due("processes", 2, x.processes());
        Check.due("1, whose event was made first", 1, x.step());
        Check.due("0", 0, x.step());
        Check.due("processes", 3, x.processes());
        Check.due("rank", 7, x.rankOf(2));
        Check.due("state", 0, x.stateOf(2));
        Check.due("mark", 3, x.markOf(2));
        Check.due("event", 3, x.eventOf(2));
        Check.due("place", 0, x.placeOf(2));
        Check.due("the child was made ahead of the wait's event", 2, x.step());
        Check.due("then the parent", 0, x.step());
        Check.due("processes", 4, x.processes());
        Check.due("rank", 2, x.rankOf(3));
        Check.due("a child with the parent's own script", 3, x.step());
        Check.due("event", 6, x.eventOf(3));
    }

    private static void spawnWithoutRoom() {
        Check.promise(18, "SPAWN does nothing if there are 24");
        Sandglass x = new Sandglass();
        x.addScript();
        x.add(0, 7, 0, 5);
        x.add(0, 12, 3, 0);
        x.start(0, 0, 0);
        Check.due("run", 24, x.run(9));
        Check.due("processes", 24, x.processes());
        Check.due("done", 48, x.done());
        Check.due("rank of the last", 3, x.rankOf(23));
        Check.due("state of the last", 5, x.stateOf(23));
    }

    private static void markAndTally() {
        Check.promise(24, "markOf, with MARK and TALLY");
        Sandglass x = new Sandglass();
        x.addTally(2);
        x.addTally(1);
        Check.script(x, Check.pause(6, 0), Check.tally(1), Check.mark(), Check.tally(0),
                Check.pause(9, 0), Check.tally(1), Check.tally(0));
        x.run(30);
        x.start(0, 0, 4);
        Check.due("mark", 30, x.markOf(0));
        x.run(10);
        Check.due("mark", 40, x.markOf(0));
        Check.due("latest of 1: also the delay counts", 10, x.ofTally(1, 3));
        Check.due("tallied of 0", 1, x.tallied(0));
        Check.due("latest of 0", 0, x.ofTally(0, 3));
        x.run(9);
        Check.due("latest of 1", 9, x.ofTally(1, 3));
        Check.due("sum of 1", 19, x.ofTally(1, 0));
        Check.due("latest of 0", 9, x.ofTally(0, 3));
        Check.due("batches of 0", 1, x.batches(0));
    }

    private static void again() {
        Check.promise(21, "placeOf, with AGAIN");
        Sandglass x = new Sandglass();
        Check.script(x, Check.pause(1, 0), Check.again(0, 2), Check.await(0), Check.again(2, 0),
                Check.again(0, 1), Check.again(15, 20));
        x.start(0, 0, 0);
        x.run(2);
        Check.due("time", 2, x.time());
        Check.due("place", 1, x.placeOf(0));
        Check.due("done", 5, x.done());
        x.run(1);
        Check.due("awaiting, behind 3 waits", 4, x.stateOf(0));
        Check.due("done", 7, x.done());
        x.interrupt(0);
        x.step();
        Check.due("with b 0 it goes on, by the next AGAIN to 0", 1, x.stateOf(0));
        Check.due("place", 1, x.placeOf(0));
        Check.due("done", 10, x.done());
        Check.due("three waits anew, as the counter became 0", 3, x.run(50));
        Check.due("state", 4, x.stateOf(0));
        Check.due("time", 53, x.time());
        x.interrupt(0);
        x.step();
        Check.due("AGAIN to a place without an instruction: ENDED", 5, x.stateOf(0));
        Check.due("place", 15, x.placeOf(0));
    }

    private static void againInside() {
        Check.promise(21, "counters are each process's own, each instruction's own");
        Sandglass x = new Sandglass();
        Check.script(x, Check.pause(1, 0), Check.again(0, 1), Check.again(0, 2));
        x.start(0, 0, 0);
        x.start(0, 0, 0);
        x.run(5);
        Check.due("state", 1, x.stateOf(0));
        Check.due("events", 2, x.events());
        Check.due("run", 2, x.run(1));
        Check.due("6 waits each", 5, x.stateOf(0));
        Check.due("6 waits each", 5, x.stateOf(1));
        Check.due("time", 6, x.time());
        Check.due("done", 2 * (6 + 6 + 3), x.done());
    }

    private static void rest() {
        Check.promise(23, "restOf, with REST");
        Sandglass x = new Sandglass();
        Check.script(x, Check.rest(), Check.pause(30, 0), Check.mark(), Check.pause(5, 0),
                Check.rest(), Check.rest());
        x.setHandler(0, 2);
        x.start(0, 0, 0);
        x.step();
        Check.due("REST of 0 stops", 1, x.stateOf(0));
        Check.due("event", 0, x.eventOf(0));
        x.run(12);
        Check.due("rest", 0, x.restOf(0));
        Check.due("interrupt", 18, x.interrupt(0));
        x.run(5);
        Check.due("time", 17, x.time());
        Check.due("in its rest", 35, x.eventOf(0));
        Check.due("rest", 0, x.restOf(0));
        Check.due("interrupt of the rest", 18, x.interrupt(0));
        Check.due("rest", 18, x.restOf(0));
        x.run(3);
        Check.due("interrupt: the latest wait counts", 2, x.interrupt(0));
        x.run(5);
        Check.due("in its rest", 27, x.eventOf(0));
        x.run(2);
        Check.due("the second REST is 0", 5, x.stateOf(0));
        Check.due("time", 27, x.time());
    }

    private static void rank() {
        Check.promise(22, "rankOf, with RANK");
        Sandglass x = new Sandglass();
        Check.script(x, Check.rank(9), Check.pause(1, 0), Check.rank(0), Check.pause(1, 0));
        x.start(0, 4, 0);
        Check.due("rank", 4, x.rankOf(0));
        x.step();
        Check.due("rank", 9, x.rankOf(0));
        x.step();
        Check.due("rank", 0, x.rankOf(0));
    }

    private static void skip() {
        Check.promise(33, "level, with SKIP");
        Sandglass x = new Sandglass();
        x.addStore(9, 4);
        x.addStore(9, 0);
        Check.script(x, Check.skip(0, 4), Check.rank(1), Check.await(0));
        Check.script(x, Check.skip(0, 5), Check.rank(1), Check.await(0));
        Check.script(x, Check.skip(1, 1));
        x.start(0, 5, 0);
        x.start(1, 5, 0);
        x.start(2, 5, 0);
        x.run(0);
        Check.due("level as high: not skipped", 1, x.rankOf(0));
        Check.due("level below: skipped", 5, x.rankOf(1));
        Check.due("done", 3 + 2 + 1, x.done());
        Check.due("behind the last one: ENDED", 5, x.stateOf(2));
        Check.due("place", 2, x.placeOf(2));
    }

    private static void brokenCounts() {
        Check.promise(19, "done, also for those by which a process is stopped or BROKEN");
        Sandglass x = new Sandglass();
        x.addResource(0, 1);
        x.addStore(3, 0);
        Check.script(x, Check.mark(), Check.seize(0, 2));
        Check.script(x, Check.mark(), Check.put(0, 4));
        Check.script(x, Check.mark(), Check.mark(), Check.get(0, 4));
        x.start(0, 0, 0);
        x.start(1, 0, 0);
        x.start(2, 0, 0);
        x.run(0);
        Check.due("SEIZE of too many", 6, x.stateOf(0));
        Check.due("PUT of too much", 6, x.stateOf(1));
        Check.due("GET of too much", 6, x.stateOf(2));
        Check.due("done", 7, x.done());
        Check.due("place", 2, x.placeOf(0));
    }

    private static void askingThrows() {
        Check.promise(20, "asking for processes that there are not: promises 20 to 26");
        Sandglass x = new Sandglass();
        x.addResource(0, 1);
        x.addScript();
        x.start(0, 0, 0);
        int[] none = {-1, 1, 24, Integer.MIN_VALUE, Integer.MAX_VALUE};
        for (int p : none) {
            Check.dueThrow(Check.INDEX, x, "stateOf(" + p + ")", () -> x.stateOf(p));
            Check.dueThrow(Check.INDEX, x, "placeOf(" + p + ")", () -> x.placeOf(p));
            Check.dueThrow(Check.INDEX, x, "rankOf(" + p + ")", () -> x.rankOf(p));
            Check.dueThrow(Check.INDEX, x, "restOf(" + p + ")", () -> x.restOf(p));
            Check.dueThrow(Check.INDEX, x, "markOf(" + p + ")", () -> x.markOf(p));
            Check.dueThrow(Check.INDEX, x, "eventOf(" + p + ")", () -> x.eventOf(p));
            Check.dueThrow(Check.INDEX, x, "holds(" + p + ", 0)", () -> x.holds(p, 0));
            Check.dueThrow(Check.INDEX, x, "holds(0, " + p + ")", () -> x.holds(0, p));
        }
    }
}
