/** The boundaries of the Terms 6: what is counted. */
public final class CountsEdgeTest extends Check {

    public static void main(String[] args) {
        tests(CountsEdgeTest.class);
        end();
    }

    @Says(part = "Terms 6", words = "BUSY of a resource is the sum, over all ticks up to the TIME, of its"
            + " units that are held")
    static void busyUpToTheTime() {
        Sandglass x = new Sandglass();
        x.addResource(0, 9);
        x.addResource(0, 9);
        script(x, seize(0, 4), pause(3, 0), seize(0, 5), pause(2, 0), release(0, 8), await(0));
        x.start(0, 0, 5);
        x.run(5);
        due("as units were got just now", 0, x.busy(0));
        x.run(1);
        due("one tick later", 4, x.busy(0));
        x.run(2);
        due("as all units were got just now", 12, x.busy(0));
        x.run(1);
        due("one tick later", 21, x.busy(0));
        x.run(1);
        due("as 8 were released just now", 30, x.busy(0));
        x.run(10);
        due("10 ticks later", 40, x.busy(0));
        x.run(0);
        due("no tick later", 40, x.busy(0));
        due("of the other one", 0, x.busy(1));
    }

    @Says(part = "Terms 6", words = "of its units that are held")
    static void busyWithThoseHeldInAnyState() {
        Sandglass x = new Sandglass();
        x.addResource(2, 3);
        x.addResource(0, 1);
        x.start(script(x, seize(1, 1), await(0)), 0, 0);
        x.start(script(x, seize(0, 2), seize(1, 1), await(0)), 9, 0);
        x.run(4);
        due("by one QUEUED elsewhere", 8, x.busy(0));
        x.interrupt(1);
        x.run(3);
        due("by one AWAITING", 14, x.busy(0));
        x.cancel(1);
        x.run(3);
        due("by nobody", 14, x.busy(0));
        due("of the other one", 10, x.busy(1));
    }

    @Says(part = "Terms 6", words = "over all ticks up to the TIME")
    static void countedByStepsAndRunsAlike() {
        Sandglass x = new Sandglass();
        x.addResource(0, 2);
        x.addStore(9, 3);
        script(x, seize(0, 2), pause(7, 0), put(0, 4), await(0));
        x.start(0, 0, 2);
        x.start(0, 0, 4);
        while (x.events() > 0) {
            x.step();
        }
        due("time", 9, x.time());
        due("busy", 14, x.busy(0));
        due("queueing", 5, x.queueing(0));
        due("area", 27, x.area(0));
        Sandglass late = new Sandglass();
        late.run(10);
        late.addStore(9, 3);
        late.addResource(0, 2);
        due("area of one told just now", 0, late.area(0));
        late.run(2);
        due("area of one told 2 ticks ago", 6, late.area(0));
        due("busy", 0, late.busy(0));
    }

    @Says(part = "Terms 6", words = "QUEUEING likewise of how many are in its QUEUE")
    static void queueingUpToTheTime() {
        Sandglass x = new Sandglass();
        x.addResource(0, 1);
        x.addResource(0, 1);
        script(x, seize(0, 1), pause(4, 0));
        x.start(0, 0, 0);
        x.start(0, 0, 1);
        x.start(0, 0, 2);
        x.run(1);
        due("as the first one came just now", 0, x.queueing(0));
        x.run(1);
        due("one tick later", 1, x.queueing(0));
        x.run(2);
        due("with two of them", 5, x.queueing(0));
        x.run(4);
        due("with one of them", 9, x.queueing(0));
        x.run(50);
        due("with none of them", 9, x.queueing(0));
        due("of the other one", 0, x.queueing(1));
    }

    @Says(part = "Terms 6", words = "of how many are in its QUEUE")
    static void queueingOfThoseThrownOut() {
        Sandglass x = new Sandglass();
        x.addResource(2, 1);
        script(x, seize(0, 1), pause(20, 0));
        x.start(0, 9, 0);
        x.start(0, 0, 5);
        x.run(5);
        due("as it was thrown out just now", 0, x.queueing(0));
        x.run(3);
        due("3 ticks later", 3, x.queueing(0));
        due("busy", 8, x.busy(0));
    }

    @Says(part = "Terms 6", words = "LONGEST is how many were in its QUEUE at most at one time")
    static void longestAtOneTime() {
        Sandglass x = new Sandglass();
        x.addResource(0, 1);
        script(x, seize(0, 1), await(0));
        due("at first", 0, x.longest(0));
        x.start(0, 0, 0);
        x.run(0);
        x.start(0, 0, 0);
        x.run(0);
        due("with one that waits", 1, x.longest(0));
        x.start(0, 0, 0);
        x.run(0);
        due("with two that wait", 2, x.longest(0));
        x.cancel(2);
        due("behind that", 2, x.longest(0));
        x.start(0, 0, 0);
        x.run(0);
        due("two again", 2, x.longest(0));
        x.cancel(1);
        x.cancel(3);
        due("with none left", 2, x.longest(0));
        for (int i = 4; i < 24; i++) {
            x.start(0, 0, 0);
        }
        x.run(0);
        due("with all that there can be but the one that holds", 20, x.longest(0));
        Sandglass all = new Sandglass();
        all.addResource(0, 1);
        script(all, seize(0, 1), await(0));
        for (int i = 0; i < 24; i++) {
            all.start(0, 0, 0);
        }
        all.run(0);
        due("23 behind one", 23, all.longest(0));
        due("queued", 23, all.queued(0));
    }

    @Says(part = "Terms 6", words = "(also those that leave it at once)")
    static void longestWithThoseThatLeaveAtOnce() {
        Sandglass x = new Sandglass();
        x.addResource(1, 3);
        int two = script(x, seize(0, 2), await(0));
        int one = script(x, seize(0, 1), await(0));
        x.start(two, 5, 0);
        x.step();
        due("one that left at once", 1, x.longest(0));
        due("queueing", 0, x.queueing(0));
        x.start(two, 5, 0);
        x.step();
        due("one that stays", 1, x.longest(0));
        x.start(one, 4, 0);
        x.step();
        due("one that left at once, ahead of one that stays", 2, x.longest(0));
        due("queued", 1, x.queued(0));
        Sandglass taken = new Sandglass();
        taken.addResource(2, 2);
        taken.start(script(taken, seize(0, 1), pause(50, 0)), 9, 0);
        taken.start(script(taken, seize(0, 1), pause(50, 0)), 8, 0);
        taken.run(0);
        taken.start(script(taken, seize(0, 2), await(0)), 7, 0);
        taken.step();
        due("two thrown out, and the one that took and left at once", 3, taken.longest(0));
        due("queued", 2, taken.queued(0));
    }

    @Says(part = "Terms 6", words = "AREA of a store is the sum, over all ticks, of its LEVEL.")
    static void areaUpToTheTime() {
        Sandglass x = new Sandglass();
        x.addStore(99, 99);
        x.addStore(99, 0);
        x.addStore(99, 5);
        script(x, put(2, 3), pause(2, 0), get(2, 8), put(1, 99));
        due("at first", 0, x.area(0));
        x.start(0, 0, 4);
        x.run(1);
        due("of a full one", 99, x.area(0));
        due("of an empty one", 0, x.area(1));
        x.run(3);
        due("as the LEVEL changed just now", 20, x.area(2));
        x.run(2);
        due("two ticks later", 36, x.area(2));
        x.run(1);
        due("empty since then", 36, x.area(2));
        due("full since then", 99, x.area(1));
        due("always full", 7 * 99, x.area(0));
        x.run(0);
        due("no tick later", 99, x.area(1));
    }

    @Says(part = "Terms 6", words = "What is tallied one behind the other is put into batches, of BATCH"
            + " numbers each")
    static void intoBatches() {
        Sandglass x = new Sandglass();
        x.addTally(3);
        script(x, tally(0), pause(1, 0), again(0, 20));
        x.start(0, 0, 0);
        x.run(9);
        due("0, 1, 2", 3, x.sumOf(0, 0));
        due("3, 4, 5", 12, x.sumOf(0, 1));
        due("6, 7, 8", 21, x.sumOf(0, 2));
        due("batches", 3, x.batches(0));
        due("tallied, with one that is in none yet", 10, x.tallied(0));
        Sandglass both = new Sandglass();
        both.addTally(2);
        both.addTally(2);
        script(both, mark(), pause(4, 0), tally(0), tally(1), tally(0));
        script(both, mark(), pause(5, 0), tally(0));
        both.start(0, 0, 0);
        both.start(1, 0, 0);
        both.run(5);
        due("of one process", 8, both.sumOf(0, 0));
        due("another one's is next", 1, both.batches(0));
        due("with the other tally", 0, both.batches(1));
        both.start(1, 0, 0);
        both.run(5);
        due("of two processes", 10, both.sumOf(0, 1));
    }

    @Says(part = "Terms 6", words = "a batch counts as soon as it is full.")
    static void asSoonAsItIsFull() {
        int[] sizes = {1, 2, 19, 20};
        for (int size : sizes) {
            Sandglass x = new Sandglass();
            x.addTally(size);
            script(x, tally(0), pause(1, 0), again(0, 20), again(0, 20));
            x.start(0, 0, 0);
            for (int count = 1; count <= 2 * size; count++) {
                x.step();
                due("tallied", count, x.tallied(0));
                due("batches of " + size + " with " + count, count / size, x.batches(0));
            }
        }
    }
}
