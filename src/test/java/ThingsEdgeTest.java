/** The boundaries of the Terms 1 and of the promises 1 to 8: what there is. */
public final class ThingsEdgeTest extends Check {

    public static void main(String[] args) {
        tests(ThingsEdgeTest.class);
        end();
    }

    // ---- Terms 1

    @Says(part = "Terms", words = "The TIME is 0 at first.")
    static void timeIsZeroAtFirst() {
        due("time", 0, new Sandglass().time());
    }

    @Says(part = "Terms 1", words = "At most 6 RESOURCES, numbered from 0")
    static void sixResourcesOfTheirOwn() {
        Sandglass x = new Sandglass();
        for (int i = 0; i < 6; i++) {
            due("its number", i, x.addResource(0, i + 2));
        }
        script(x, seize(0, 1), seize(5, 2), await(0));
        x.start(0, 0, 0);
        x.step();
        due("free of the first", 1, x.free(0));
        due("free of the next", 3, x.free(1));
        due("free of the last but one", 6, x.free(4));
        due("free of the last", 5, x.free(5));
    }

    @Says(part = "Terms 1", words = "each has a kind (0 by turns, 1 by ranks, 2 taking)")
    static void threeKinds() {
        int[] firstInRow = {1, 2, 0};
        for (int kind = 0; kind < 3; kind++) {
            Sandglass x = new Sandglass();
            x.addResource(kind, 1);
            script(x, seize(0, 1), pause(50, 0));
            x.start(0, 5, 0);
            x.start(0, 7, 1);
            x.start(0, 4, 2);
            x.run(2);
            due("first in the QUEUE with the kind " + kind, firstInRow[kind], x.queuedAt(0, 0));
            due("with the kind " + kind + " the first one keeps", kind == 2 ? 0 : 1, x.holds(0, 0));
        }
    }

    @Says(part = "Terms 1", words = "and 1 to 9 UNITS")
    static void oneUnitAndNine() {
        Sandglass x = new Sandglass();
        x.addResource(0, 1);
        x.addResource(0, 9);
        script(x, seize(0, 1), seize(1, 9), await(0));
        script(x, seize(0, 2));
        x.start(0, 0, 0);
        x.start(1, 0, 0);
        x.run(0);
        due("the only unit", 1, x.holds(0, 0));
        due("all nine", 9, x.holds(0, 1));
        due("two of one", 6, x.stateOf(1));
    }

    @Says(part = "Terms 1", words = "At most 4 STORES, numbered from 0")
    static void fourStoresOfTheirOwn() {
        Sandglass x = new Sandglass();
        for (int i = 0; i < 4; i++) {
            due("its number", i, x.addStore(9, i));
        }
        script(x, put(0, 5), put(3, 6), await(0));
        x.start(0, 0, 0);
        x.step();
        due("level of the first", 5, x.level(0));
        due("level of the next", 1, x.level(1));
        due("level of the last but one", 2, x.level(2));
        due("level of the last", 9, x.level(3));
    }

    @Says(part = "Terms 1", words = "each has room for 1 to 99, and a LEVEL")
    static void leastAndMostRoom() {
        Sandglass x = new Sandglass();
        x.addStore(1, 0);
        x.addStore(99, 0);
        script(x, put(0, 1), put(1, 99), await(0));
        x.start(0, 0, 0);
        x.step();
        due("state", 4, x.stateOf(0));
        due("room for 1 is full", 1, x.level(0));
        due("room for 99 is full", 99, x.level(1));
    }

    @Says(part = "Terms 1", words = "4 SIGNALS, numbered from 0")
    static void fourSignalsOfTheirOwn() {
        Sandglass x = new Sandglass();
        for (int i = 0; i < 4; i++) {
            script(x, await(i));
            x.start(i, 0, 0);
        }
        script(x, signal(0));
        script(x, signal(3));
        x.run(0);
        x.start(4, 0, 0);
        x.step();
        due("awaiting 0", 0, x.awaiting(0));
        due("awaiting 1", 1, x.awaiting(1));
        due("awaiting 2", 1, x.awaiting(2));
        due("awaiting 3", 1, x.awaiting(3));
        x.start(5, 0, 1);
        x.run(1);
        due("awaiting 2", 1, x.awaiting(2));
        due("awaiting 3", 0, x.awaiting(3));
    }

    @Says(part = "Terms 1", words = "At most 4 TALLIES, numbered from 0")
    static void fourTalliesOfTheirOwn() {
        Sandglass x = new Sandglass();
        for (int i = 0; i < 4; i++) {
            due("its number", i, x.addTally(1));
        }
        script(x, tally(0), pause(3, 0), tally(3), tally(3));
        x.start(0, 0, 0);
        x.run(3);
        due("tallied at the first", 1, x.tallied(0));
        due("tallied at the next", 0, x.tallied(1));
        due("tallied at the last but one", 0, x.tallied(2));
        due("tallied at the last", 2, x.tallied(3));
    }

    @Says(part = "Terms 1", words = "each has a BATCH, 1 to 20")
    static void leastAndMostBatch() {
        Sandglass x = new Sandglass();
        x.addTally(1);
        x.addTally(20);
        script(x, tally(0), tally(1), pause(0, 0), again(0, 18));
        script(x, tally(1));
        x.start(0, 0, 0);
        x.run(0);
        due("19 fill no batch of 20", 0, x.batches(1));
        due("each of 19 fills a batch of 1", 19, x.batches(0));
        x.start(1, 0, 0);
        x.step();
        due("20 fill a batch of 20", 1, x.batches(1));
    }

    @Says(part = "Terms 1", words = "At most 8 SCRIPTS, numbered from 0")
    static void eightScriptsOfTheirOwn() {
        Sandglass x = new Sandglass();
        for (int i = 0; i < 8; i++) {
            due("its number", i, x.addScript());
        }
        for (int i = 0; i < 8; i++) {
            due("number of its first", 0, x.add(i, 12, i, 0));
        }
        for (int i = 0; i < 8; i++) {
            x.start(i, 9, 0);
            x.step();
            due("rank by the script " + i, i, x.rankOf(i));
        }
    }

    @Says(part = "Terms 1", words = "each is a row of up to 16 INSTRUCTIONS, numbered from 0,"
            + " with a code and two numbers a and b")
    static void sixteenInstructions() {
        Sandglass x = new Sandglass();
        x.addScript();
        for (int i = 0; i < 16; i++) {
            due("its number", i, x.add(0, 0, i, 0));
        }
        x.start(0, 0, 0);
        for (int i = 0; i < 16; i++) {
            x.step();
            due("place", i + 1, x.placeOf(0));
            due("ticks of the instruction " + i, x.time() + i, x.eventOf(0));
        }
        x.step();
        due("behind the 16th there is none", 5, x.stateOf(0));
        due("place", 16, x.placeOf(0));
        due("done", 16, x.done());
    }

    @Says(part = "Terms 1", words = "and has a HANDLER, the number of an instruction, or -1 (at first)")
    static void handlerAtFirst() {
        Sandglass x = new Sandglass();
        script(x, await(0), mark());
        x.start(0, 0, 0);
        x.step();
        x.interrupt(0);
        due("without a HANDLER the place stays", 1, x.placeOf(0));
        due("the HANDLER at first", -1, x.setHandler(0, -1));
    }

    @Says(part = "Terms 1", words = "There is LUCK, 0 to 9999 (0, at first)")
    static void luckAtFirst() {
        Sandglass x = new Sandglass();
        due("luck", 0, x.luck());
        due("the LUCK before", 0, x.setLuck(5));
    }

    @Says(part = "Terms 1", words = "to draw below n is to make it (LUCK * 4621 + 2777) % 10000,"
            + " and then to take that % n.")
    static void drawing() {
        int[][] beforeAndBehind = {
            {0, 2777}, {1, 7398}, {2, 2019}, {13, 2850}, {32, 649}, {2382, 9999}, {4163, 0},
            {9999, 8156},
        };
        int[] bounds = {1, 2, 49, 50};
        for (int[] row : beforeAndBehind) {
            for (int n : bounds) {
                Sandglass x = new Sandglass();
                script(x, pause(0, n));
                x.setLuck(row[0]);
                x.start(0, 0, 0);
                x.step();
                due("LUCK behind " + row[0], row[1], x.luck());
                due("drawn below " + n + " with " + row[0], row[1] % n, x.eventOf(0));
            }
        }
    }

    @Says(part = "Terms 1", words = "At most 24 PROCESSES are started in all, numbered from 0")
    static void twentyFourProcesses() {
        Sandglass x = new Sandglass();
        script(x);
        script(x, spawn(0, 8), spawn(0, 7), await(0));
        for (int i = 0; i < 22; i++) {
            due("its number", i, x.start(0, 0, 0));
        }
        x.run(0);
        due("the 23rd, though the others have ended", 22, x.start(1, 0, 0));
        x.step();
        due("with the 24th spawned, and no 25th", 24, x.processes());
        due("rank of the 24th", 8, x.rankOf(23));
        due("it goes on", 23, x.step());
        due("it has ended", 5, x.stateOf(23));
        dueThrow(INDEX, x, "stateOf(24)", () -> x.stateOf(24));
    }

    @Says(part = "Terms 1", words = "a RANK (0 to 9, 0 the most urgent one)")
    static void mostUrgentRank() {
        Sandglass x = new Sandglass();
        x.addResource(1, 1);
        script(x, seize(0, 1), await(0));
        x.start(0, 5, 0);
        x.start(0, 9, 0);
        x.start(0, 8, 0);
        x.start(0, 1, 0);
        x.start(0, 0, 0);
        x.run(0);
        due("the most urgent one", 4, x.queuedAt(0, 0));
        due("the next", 3, x.queuedAt(0, 1));
        due("the last but one", 2, x.queuedAt(0, 2));
        due("the last", 1, x.queuedAt(0, 3));
    }

    @Says(part = "Terms 1", words = "a PLACE in its script (0, at first)")
    static void placeAtFirst() {
        Sandglass x = new Sandglass();
        script(x, rank(1), rank(2), await(0));
        x.setHandler(0, 1);
        x.start(0, 5, 3);
        due("place", 0, x.placeOf(0));
        x.run(2);
        due("place ahead of its event", 0, x.placeOf(0));
        x.run(1);
        due("done, from the first one on", 3, x.done());
    }

    @Says(part = "Terms 1", words = "a MARK (the TIME as it is started)")
    static void markAtFirst() {
        Sandglass x = new Sandglass();
        script(x, await(0));
        script(x, spawn(0, 0));
        x.start(0, 0, 7);
        due("started at 0", 0, x.markOf(0));
        x.run(30);
        x.start(1, 0, 7);
        due("started at 30, whatever the delay", 30, x.markOf(1));
        x.run(7);
        due("as its event happened", 30, x.markOf(1));
        due("spawned at 37", 37, x.markOf(2));
    }

    @Says(part = "Terms 1", words = "a REST (0, at first)")
    static void restAtFirst() {
        Sandglass x = new Sandglass();
        script(x, rest());
        x.start(0, 0, 9);
        due("rest", 0, x.restOf(0));
        x.run(9);
        due("the REST of 0 is over at once", 5, x.stateOf(0));
        due("time", 9, x.time());
    }

    @Says(part = "Terms 1", words = "a counter for each instruction of its script (0, at first)")
    static void countersOfTheirOwn() {
        Sandglass x = new Sandglass();
        script(x, again(0, 2), again(1, 3), await(0));
        x.start(0, 0, 0);
        x.step();
        due("2 + 1 and 3 + 1 and 1", 8, x.done());
        x.start(0, 0, 0);
        x.step();
        due("another process counts from 0", 16, x.done());
    }

    @Says(part = "Terms 1", words = "and units that it holds")
    static void unitsOfItsOwn() {
        Sandglass x = new Sandglass();
        x.addResource(0, 9);
        x.addResource(0, 9);
        script(x, seize(0, 1), seize(1, 4), await(0));
        script(x, seize(0, 3), await(0));
        x.start(0, 0, 0);
        x.start(1, 0, 0);
        due("holds at first", 0, x.holds(0, 0));
        x.run(0);
        due("holds of 0", 1, x.holds(0, 0));
        due("holds of 1", 4, x.holds(0, 1));
        due("the other one's of 0", 3, x.holds(1, 0));
        due("the other one's of 1", 0, x.holds(1, 1));
    }

    @Says(part = "Terms 1", words = "A process is READY (0), WAITING (1), QUEUED at a resource (2),"
            + " BLOCKED at a store (3), AWAITING a signal (4), ENDED (5), BROKEN (6) or CANCELLED (7).")
    static void eightStates() {
        Sandglass x = Worlds.states();
        for (int i = 0; i < 8; i++) {
            due("state", i, x.stateOf(i));
        }
        due("it is QUEUED", 2, x.queuedAt(0, 0));
        due("it is BLOCKED", 1, x.blocked(0, false));
        due("it is AWAITING", 1, x.awaiting(0));
    }

    // ---- Promise 1

    @Says(part = "Promise 1", words = "Creates a kernel without anything in it.")
    static void nothingInIt() {
        Sandglass x = new Sandglass();
        due("events", 0, x.events());
        due("nextTime", -1, x.nextTime());
        due("processes", 0, x.processes());
        due("done", 0, x.done());
        refused(INDEX, Sandglass::new, "free(0)", y -> y.free(0));
        refused(INDEX, Sandglass::new, "level(0)", y -> y.level(0));
        refused(INDEX, Sandglass::new, "tallied(0)", y -> y.tallied(0));
        refused(INDEX, Sandglass::new, "setHandler(0, 0)", y -> y.setHandler(0, 0));
        refused(INDEX, Sandglass::new, "stateOf(0)", y -> y.stateOf(0));
    }

    @Says(part = "Promise 1", words = "A new object")
    static void sharesNothing() {
        Sandglass other = Worlds.full();
        Sandglass x = new Sandglass();
        due("processes", 0, x.processes());
        due("number of its first resource", 0, x.addResource(0, 1));
        due("number of its first script", 0, x.addScript());
        due("the other's processes", 24, other.processes());
    }

    // ---- Promise 2

    @Says(part = "Promise 2", words = "Adds a resource; all of its units are free.")
    static void allUnitsFree() {
        Sandglass x = new Sandglass();
        x.addResource(0, 1);
        x.addResource(2, 9);
        due("free of 1", 1, x.free(0));
        due("free of 9", 9, x.free(1));
        due("queued", 0, x.queued(1));
    }

    @Says(part = "Promise 2", words = "Returns its number.")
    static void numberOfAResource() {
        Sandglass x = new Sandglass();
        due("the first", 0, x.addResource(2, 1));
        x.addStore(5, 0);
        due("the second", 1, x.addResource(2, 1));
    }

    @Says(part = "Promise 2", words = "if kind is not 0 to 2")
    static void kindOfAResource() {
        due("kind 0", 0, new Sandglass().addResource(0, 5));
        due("kind 1", 0, new Sandglass().addResource(1, 5));
        due("kind 2", 0, new Sandglass().addResource(2, 5));
        int[] none = {-1, 3, Integer.MIN_VALUE, Integer.MAX_VALUE};
        for (int kind : none) {
            refused(ARGUMENT, Sandglass::new, "kind " + kind, x -> x.addResource(kind, 5));
        }
    }

    @Says(part = "Promise 2", words = "units is not 1 to 9")
    static void unitsOfAResource() {
        due("1 unit", 0, new Sandglass().addResource(1, 1));
        due("9 units", 0, new Sandglass().addResource(1, 9));
        int[] none = {0, 10, -1, Integer.MIN_VALUE, Integer.MAX_VALUE};
        for (int units : none) {
            refused(ARGUMENT, Sandglass::new, units + " units", x -> x.addResource(1, units));
        }
    }

    private static Sandglass withResources(int count) {
        Sandglass x = new Sandglass();
        for (int i = 0; i < count; i++) {
            x.addResource(0, 1);
        }
        return x;
    }

    @Says(part = "Promise 2", words = "Throws `IllegalStateException` if there are 6")
    static void seventhResource() {
        due("a sixth", 5, withResources(5).addResource(0, 1));
        refused(STATE, () -> withResources(6), "a seventh", x -> x.addResource(0, 1));
    }

    // ---- Promise 3

    @Says(part = "Promise 3", words = "Adds a store.")
    static void newStore() {
        Sandglass x = new Sandglass();
        x.addStore(7, 3);
        due("level", 3, x.level(0));
        due("blocked with a PUT", 0, x.blocked(0, false));
        due("blocked with a GET", 0, x.blocked(0, true));
        due("area", 0, x.area(0));
    }

    @Says(part = "Promise 3", words = "Returns its number.")
    static void numberOfAStore() {
        Sandglass x = new Sandglass();
        due("the first", 0, x.addStore(5, 0));
        x.addResource(0, 1);
        due("the second", 1, x.addStore(5, 0));
    }

    @Says(part = "Promise 3", words = "if room is not 1 to 99")
    static void roomOfAStore() {
        due("room 1", 0, new Sandglass().addStore(1, 0));
        due("room 99", 0, new Sandglass().addStore(99, 0));
        int[] none = {0, 100, -1, Integer.MIN_VALUE, Integer.MAX_VALUE};
        for (int room : none) {
            refused(ARGUMENT, Sandglass::new, "room " + room, x -> x.addStore(room, 0));
        }
    }

    @Says(part = "Promise 3", words = "level is not 0 to room")
    static void levelOfAStore() {
        int[] rooms = {1, 50, 99};
        for (int room : rooms) {
            due("empty", 0, new Sandglass().addStore(room, 0));
            Sandglass full = new Sandglass();
            due("full", 0, full.addStore(room, room));
            due("level", room, full.level(0));
            int[] none = {-1, room + 1, Integer.MIN_VALUE, Integer.MAX_VALUE};
            for (int level : none) {
                refused(ARGUMENT, Sandglass::new, "level " + level + " of " + room,
                        x -> x.addStore(room, level));
            }
        }
    }

    private static Sandglass withStores(int count) {
        Sandglass x = new Sandglass();
        for (int i = 0; i < count; i++) {
            x.addStore(9, i);
        }
        return x;
    }

    @Says(part = "Promise 3", words = "Throws `IllegalStateException` if there are 4")
    static void fifthStore() {
        due("a fourth", 3, withStores(3).addStore(1, 0));
        refused(STATE, () -> withStores(4), "a fifth", x -> x.addStore(1, 0));
    }

    // ---- Promise 4

    @Says(part = "Promise 4", words = "Adds a tally.")
    static void newTally() {
        Sandglass x = new Sandglass();
        x.addTally(3);
        due("tallied", 0, x.tallied(0));
        due("batches", 0, x.batches(0));
    }

    @Says(part = "Promise 4", words = "Returns its number.")
    static void numberOfATally() {
        Sandglass x = new Sandglass();
        due("the first", 0, x.addTally(1));
        x.addStore(5, 0);
        due("the second", 1, x.addTally(1));
    }

    @Says(part = "Promise 4", words = "if batch is not 1 to 20")
    static void batchOfATally() {
        due("batch 1", 0, new Sandglass().addTally(1));
        due("batch 20", 0, new Sandglass().addTally(20));
        int[] none = {0, 21, -1, Integer.MIN_VALUE, Integer.MAX_VALUE};
        for (int batch : none) {
            refused(ARGUMENT, Sandglass::new, "batch " + batch, x -> x.addTally(batch));
        }
    }

    private static Sandglass withTallies(int count) {
        Sandglass x = new Sandglass();
        for (int i = 0; i < count; i++) {
            x.addTally(2);
        }
        return x;
    }

    @Says(part = "Promise 4", words = "Throws `IllegalStateException` if there are 4")
    static void fifthTally() {
        due("a fourth", 3, withTallies(3).addTally(1));
        refused(STATE, () -> withTallies(4), "a fifth", x -> x.addTally(1));
    }

    // ---- Promise 5

    @Says(part = "Promise 5", words = "Adds a script without instructions.")
    static void emptyScript() {
        Sandglass x = new Sandglass();
        x.addScript();
        x.start(0, 0, 0);
        x.step();
        due("it has ended", 5, x.stateOf(0));
        due("place", 0, x.placeOf(0));
        due("done", 0, x.done());
    }

    @Says(part = "Promise 5", words = "Returns its number.")
    static void numberOfAScript() {
        Sandglass x = new Sandglass();
        due("the first", 0, x.addScript());
        x.addTally(1);
        due("the second", 1, x.addScript());
    }

    private static Sandglass withScripts(int count) {
        Sandglass x = new Sandglass();
        for (int i = 0; i < count; i++) {
            x.addScript();
        }
        return x;
    }

    @Says(part = "Promise 5", words = "Throws `IllegalStateException` if there are 8")
    static void ninthScript() {
        due("an eighth", 7, withScripts(7).addScript());
        refused(STATE, () -> withScripts(8), "a ninth", Sandglass::addScript);
    }

    // ---- Promise 6

    @Says(part = "Promise 6", words = "Adds an instruction to the end of a script.")
    static void addsToTheEnd() {
        Sandglass x = new Sandglass();
        script(x, rank(4));
        x.add(0, 12, 6, 0);
        x.start(0, 0, 0);
        x.step();
        due("the later one is the latest one done", 6, x.rankOf(0));
        due("done", 2, x.done());
    }

    @Says(part = "Promise 6", words = "Returns its number.")
    static void numberOfAnInstruction() {
        Sandglass x = withScripts(2);
        due("the first", 0, x.add(0, 8, 0, 0));
        due("the second", 1, x.add(0, 8, 0, 0));
        due("the first of the other script", 0, x.add(1, 8, 0, 0));
    }

    @Says(part = "Promise 6", words = "(what an instruction does not use is not looked at)")
    static void notLookedAt() {
        int[] any = {-1, 0, 100, Integer.MIN_VALUE, Integer.MAX_VALUE};
        for (int b : any) {
            stands(5, 0, b);
            stands(6, 0, b);
            stands(8, b, b);
            stands(9, 0, b);
            stands(11, b, b);
            stands(12, 0, b);
        }
        Sandglass x = Worlds.pairs();
        script(x, signal(0), new int[] {8, -7, 99}, new int[] {12, 4, -1}, new int[] {9, 0, 77},
                new int[] {11, 88, -9}, new int[] {6, 2, -5});
        x.start(2, 0, 0);
        x.run(0);
        due("rank", 4, x.rankOf(0));
        due("tallied", 1, x.tallied(0));
        due("awaiting", 1, x.awaiting(2));
        due("done", 6, x.done());
    }

    @Says(part = "Promise 6", words = "Throws `IndexOutOfBoundsException` if there is no such script")
    static void scriptOfAnInstruction() {
        due("the only one", 0, withScripts(1).add(0, 8, 0, 0));
        due("the last of eight", 0, withScripts(8).add(7, 8, 0, 0));
        refused(INDEX, Sandglass::new, "add to 0 of none", x -> x.add(0, 8, 0, 0));
        refused(INDEX, () -> withScripts(1), "add to 1 of one", x -> x.add(1, 8, 0, 0));
        int[] none = {-1, 8, Integer.MIN_VALUE, Integer.MAX_VALUE};
        for (int script : none) {
            refused(INDEX, () -> withScripts(8), "add to " + script, x -> x.add(script, 8, 0, 0));
        }
    }

    @Says(part = "Promise 6", words = "if code is not 0 to 13")
    static void codeOfAnInstruction() {
        for (int code = 0; code <= 13; code++) {
            stands(code, 0, 1);
        }
        int[] none = {-1, 14, Integer.MIN_VALUE, Integer.MAX_VALUE};
        for (int code : none) {
            falls(code, 0, 1);
        }
    }

    /** The instruction is added; a and b stand at an edge of what is allowed. */
    private static void stands(int code, int a, int b) {
        due("add(0, " + code + ", " + a + ", " + b + ")", 0, Worlds.pairs().add(0, code, a, b));
    }

    private static void falls(int code, int a, int b) {
        refused(ARGUMENT, Worlds::pairs, "add(0, " + code + ", " + a + ", " + b + ")",
                x -> x.add(0, code, a, b));
    }

    private static void aIsIn(int code, int least, int most) {
        stands(code, least, 1);
        stands(code, most, 1);
        falls(code, least - 1, 1);
        falls(code, most + 1, 1);
        falls(code, Integer.MIN_VALUE, 1);
        falls(code, Integer.MAX_VALUE, 1);
    }

    private static void bIsIn(int code, int least, int most) {
        stands(code, 0, least);
        stands(code, 0, most);
        falls(code, 0, least - 1);
        falls(code, 0, most + 1);
        falls(code, 0, Integer.MIN_VALUE);
        falls(code, 0, Integer.MAX_VALUE);
    }

    @Says(part = "Promise 6", words = "with 0, if a is not 0 to 99")
    static void ticksOfWait() {
        aIsIn(0, 0, 99);
    }

    @Says(part = "Promise 6", words = "with 0, if a is not 0 to 99, or b is not 0 to 50")
    static void drawOfWait() {
        bIsIn(0, 0, 50);
    }

    @Says(part = "Promise 6", words = "with 1 and 2, if there is no resource a")
    static void resourceOfSeizeAndRelease() {
        aIsIn(1, 0, 1);
        aIsIn(2, 0, 1);
        refused(ARGUMENT, () -> withScripts(1), "SEIZE without any", x -> x.add(0, 1, 0, 1));
        refused(ARGUMENT, () -> withScripts(1), "RELEASE without any", x -> x.add(0, 2, 0, 1));
        due("SEIZE of the last of six", 0, Worlds.pairs().add(0, 1, 1, 1));
        Sandglass x = withResources(6);
        x.addScript();
        due("SEIZE of the sixth", 0, x.add(0, 1, 5, 1));
        due("RELEASE of the sixth", 1, x.add(0, 2, 5, 1));
    }

    @Says(part = "Promise 6", words = "with 1 and 2, if there is no resource a, or b is not 1 to 9")
    static void unitsOfSeizeAndRelease() {
        bIsIn(1, 1, 9);
        bIsIn(2, 1, 9);
    }

    @Says(part = "Promise 6", words = "with 3, 4 and 13, if there is no store a")
    static void storeOfPutAndGetAndSkip() {
        int[] codes = {3, 4, 13};
        for (int code : codes) {
            aIsIn(code, 0, 1);
            refused(ARGUMENT, () -> withScripts(1), "code " + code + " without any",
                    x -> x.add(0, code, 0, 1));
            Sandglass x = withStores(4);
            x.addScript();
            due("of the fourth", 0, x.add(0, code, 3, 1));
        }
    }

    @Says(part = "Promise 6", words = "with 3, 4 and 13, if there is no store a, or b is not 1 to 99")
    static void amountOfPutAndGetAndSkip() {
        bIsIn(3, 1, 99);
        bIsIn(4, 1, 99);
        bIsIn(13, 1, 99);
    }

    @Says(part = "Promise 6", words = "with 5 and 6, if a is not 0 to 3")
    static void signalOfSignalAndAwait() {
        aIsIn(5, 0, 3);
        aIsIn(6, 0, 3);
    }

    @Says(part = "Promise 6", words = "with 7, if there is no script a")
    static void scriptOfSpawn() {
        aIsIn(7, 0, 1);
        due("its own, being the only one", 0, withScripts(1).add(0, 7, 0, 0));
        due("the eighth", 0, withScripts(8).add(0, 7, 7, 0));
    }

    @Says(part = "Promise 6", words = "with 7, if there is no script a, or b is not 0 to 9")
    static void rankOfSpawn() {
        bIsIn(7, 0, 9);
    }

    @Says(part = "Promise 6", words = "with 9, if there is no tally a")
    static void tallyOfTally() {
        aIsIn(9, 0, 1);
        refused(ARGUMENT, () -> withScripts(1), "TALLY without any", x -> x.add(0, 9, 0, 0));
        Sandglass x = withTallies(4);
        x.addScript();
        due("the fourth", 0, x.add(0, 9, 3, 0));
    }

    @Says(part = "Promise 6", words = "with 10, if a is not 0 to 15")
    static void placeOfAgain() {
        aIsIn(10, 0, 15);
    }

    @Says(part = "Promise 6", words = "with 10, if a is not 0 to 15, or b is not 0 to 20")
    static void timesOfAgain() {
        bIsIn(10, 0, 20);
    }

    @Says(part = "Promise 6", words = "with 12, if a is not 0 to 9")
    static void rankOfRank() {
        aIsIn(12, 0, 9);
    }

    private static Sandglass withInstructions(int count) {
        Sandglass x = withScripts(1);
        for (int i = 0; i < count; i++) {
            x.add(0, 8, 0, 0);
        }
        return x;
    }

    @Says(part = "Promise 6", words = "Throws `IllegalStateException` if the script has 16")
    static void seventeenthInstruction() {
        due("a 16th", 15, withInstructions(15).add(0, 8, 0, 0));
        refused(STATE, () -> withInstructions(16), "a 17th", x -> x.add(0, 8, 0, 0));
        Sandglass x = withInstructions(16);
        x.addScript();
        due("the first of another one", 0, x.add(1, 8, 0, 0));
    }

    @Says(part = "Promise 6", words = "if the script has 16, or a process was started with it")
    static void addBehindAStart() {
        refused(STATE, ThingsEdgeTest::startedOne, "add behind a start", x -> x.add(0, 8, 0, 0));
        due("the script that none was started with", 1, startedOne().add(1, 8, 0, 0));
        Sandglass x = startedOne();
        x.cancel(0);
        dueThrow(STATE, x, "add as the only one is CANCELLED", () -> x.add(0, 8, 0, 0));
        Sandglass refusedStart = withInstructions(3);
        Later.answer(() -> refusedStart.start(0, 10, 0));
        due("behind a start that threw", 3, refusedStart.add(0, 8, 0, 0));
    }

    /** Started with the script 0, its event is not yet; the script 1 spawns the script 2. */
    private static Sandglass startedOne() {
        Sandglass x = withScripts(3);
        x.add(0, 8, 0, 0);
        x.add(1, 7, 2, 0);
        x.add(2, 8, 0, 0);
        x.start(0, 0, 9);
        return x;
    }

    @Says(part = "Promise 6", words = "a process was started with it")
    static void addBehindASpawn() {
        Sandglass x = startedOne();
        x.start(1, 0, 3);
        x.endOf(1, 5);
        due("ahead of the SPAWN, also behind one that was only tried", 1, x.add(2, 8, 0, 0));
        x.run(3);
        dueThrow(STATE, x, "add behind the SPAWN", () -> x.add(2, 8, 0, 0));
    }

    // ---- Promise 7

    @Says(part = "Promise 7", words = "its HANDLER from now on (also one that it has not yet)")
    static void handlerFromNowOn() {
        Sandglass x = new Sandglass();
        script(x, await(0), await(1));
        x.start(0, 0, 0);
        x.step();
        x.setHandler(0, 15);
        x.setHandler(0, 1);
        x.interrupt(0);
        due("also for one that was started before", 1, x.placeOf(0));
        x.step();
        x.setHandler(0, 2);
        x.interrupt(0);
        due("an instruction that is not there", 2, x.placeOf(0));
        x.step();
        due("it has ended", 5, x.stateOf(0));
    }

    @Says(part = "Promise 7", words = "(also one that it has not yet)")
    static void handlerAheadOfItsInstruction() {
        Sandglass x = withScripts(1);
        due("the one before", -1, x.setHandler(0, 1));
        x.add(0, 6, 0, 0);
        x.add(0, 12, 7, 0);
        x.start(0, 0, 0);
        x.step();
        x.interrupt(0);
        due("place", 1, x.placeOf(0));
        x.step();
        due("rank", 7, x.rankOf(0));
    }

    @Says(part = "Promise 7", words = "Returns the one before.")
    static void handlerBefore() {
        Sandglass x = withScripts(2);
        due("at first", -1, x.setHandler(0, 0));
        due("then", 0, x.setHandler(0, 15));
        due("then", 15, x.setHandler(0, -1));
        due("then", -1, x.setHandler(0, 3));
        due("of the other script", -1, x.setHandler(1, 4));
        due("of the first one again", 3, x.setHandler(0, 3));
    }

    @Says(part = "Promise 7", words = "Throws `IndexOutOfBoundsException` if there is no such script")
    static void scriptOfAHandler() {
        due("the last one", -1, withScripts(8).setHandler(7, 0));
        refused(INDEX, Sandglass::new, "setHandler(0, 0) of none", x -> x.setHandler(0, 0));
        int[] none = {-1, 2, Integer.MIN_VALUE, Integer.MAX_VALUE};
        for (int script : none) {
            refused(INDEX, () -> withScripts(2), "script " + script, x -> x.setHandler(script, 0));
        }
    }

    @Says(part = "Promise 7", words = "if handler is not -1 to 15")
    static void handlerInRange() {
        due("handler -1", -1, withScripts(1).setHandler(0, -1));
        due("handler 15", -1, withScripts(1).setHandler(0, 15));
        int[] none = {-2, 16, Integer.MIN_VALUE, Integer.MAX_VALUE};
        for (int handler : none) {
            refused(ARGUMENT, () -> withScripts(1), "handler " + handler,
                    x -> x.setHandler(0, handler));
        }
    }

    // ---- Promise 8

    @Says(part = "Promise 8", words = "the LUCK from now on")
    static void luckFromNowOn() {
        Sandglass x = new Sandglass();
        script(x, pause(0, 50), pause(0, 50));
        x.start(0, 0, 0);
        x.step();
        x.setLuck(13);
        due("luck", 13, x.luck());
        x.step();
        due("luck, drawn from that", 2850, x.luck());
    }

    @Says(part = "Promise 8", words = "Returns the LUCK before.")
    static void luckBefore() {
        Sandglass x = new Sandglass();
        script(x, pause(0, 1));
        due("at first", 0, x.setLuck(9999));
        due("then", 9999, x.setLuck(0));
        x.start(0, 0, 0);
        x.step();
        due("one that was drawn", 2777, x.setLuck(5));
    }

    @Says(part = "Promise 8", words = "if luck is not 0 to 9999")
    static void luckInRange() {
        due("luck 0", 0, new Sandglass().setLuck(0));
        due("luck 9999", 0, new Sandglass().setLuck(9999));
        int[] none = {-1, 10000, Integer.MIN_VALUE, Integer.MAX_VALUE};
        for (int luck : none) {
            refused(ARGUMENT, Sandglass::new, "luck " + luck, x -> x.setLuck(luck));
        }
    }
}
