/** The rows of the Terms about exceptions, for each method that throws any. */
public final class RefusalEdgeTest extends Check {

    private static final int FAR = Integer.MAX_VALUE;
    private static final String NOTHING = "A method that throws an exception changes nothing.";
    private static final String FIRST =
            "If several exceptions apply, the one that is named first is thrown.";

    public static void main(String[] args) {
        tests(RefusalEdgeTest.class);
        end();
    }

    /** All that there can be but one of each kind: so that whatever was added would show. */
    private static Sandglass almostFull() {
        Sandglass x = new Sandglass();
        for (int i = 0; i < 5; i++) {
            x.addResource(2, 2);
        }
        for (int i = 0; i < 3; i++) {
            x.addStore(5, 2);
            x.addTally(2);
        }
        for (int i = 0; i < 6; i++) {
            script(x, seize(i % 5, 1 + i % 2), pause(3, 5), put(i % 3, 2), tally(i % 3), again(0, 2));
        }
        x.addScript();
        for (int i = 0; i < 15; i++) {
            x.add(6, 8, 0, 0);
        }
        for (int i = 0; i < 23; i++) {
            x.start(i % 6, i % 10, i % 4);
        }
        x.run(2);
        return x;
    }

    // ---- what there is

    @Says(part = "Terms", words = NOTHING)
    static void addResourceChangesNothing() {
        refused(ARGUMENT, RefusalEdgeTest::almostFull, "kind 3", x -> x.addResource(3, 1));
        refused(ARGUMENT, RefusalEdgeTest::almostFull, "10 units", x -> x.addResource(0, 10));
        refused(STATE, Worlds::full, "a seventh", x -> x.addResource(0, 1));
    }

    @Says(part = "Terms", words = NOTHING)
    static void addStoreChangesNothing() {
        refused(ARGUMENT, RefusalEdgeTest::almostFull, "room 100", x -> x.addStore(100, 1));
        refused(ARGUMENT, RefusalEdgeTest::almostFull, "level 6 of 5", x -> x.addStore(5, 6));
        refused(STATE, Worlds::full, "a fifth", x -> x.addStore(1, 0));
    }

    @Says(part = "Terms", words = NOTHING)
    static void addTallyChangesNothing() {
        refused(ARGUMENT, RefusalEdgeTest::almostFull, "batch 21", x -> x.addTally(21));
        refused(STATE, Worlds::full, "a fifth", x -> x.addTally(1));
    }

    @Says(part = "Terms", words = NOTHING)
    static void addScriptChangesNothing() {
        refused(STATE, Worlds::full, "a ninth", Sandglass::addScript);
    }

    @Says(part = "Terms", words = NOTHING)
    static void addChangesNothing() {
        refused(INDEX, RefusalEdgeTest::almostFull, "to none", x -> x.add(7, 8, 0, 0));
        refused(ARGUMENT, RefusalEdgeTest::almostFull, "code 14", x -> x.add(6, 14, 0, 0));
        refused(ARGUMENT, RefusalEdgeTest::almostFull, "WAIT 100", x -> x.add(6, 0, 100, 0));
        refused(STATE, Worlds::full, "a 17th", x -> x.add(7, 8, 0, 0));
        refused(STATE, RefusalEdgeTest::almostFull, "behind a start", x -> x.add(0, 8, 0, 0));
    }

    @Says(part = "Terms", words = NOTHING)
    static void setHandlerChangesNothing() {
        refused(INDEX, RefusalEdgeTest::almostFull, "of none", x -> x.setHandler(7, 1));
        refused(ARGUMENT, RefusalEdgeTest::almostFull, "handler 16", x -> x.setHandler(0, 16));
        refused(ARGUMENT, Worlds::full, "handler -2", x -> x.setHandler(6, -2));
    }

    @Says(part = "Terms", words = NOTHING)
    static void setLuckChangesNothing() {
        refused(ARGUMENT, RefusalEdgeTest::almostFull, "luck 10000", x -> x.setLuck(10000));
        refused(ARGUMENT, Worlds::full, "luck -1", x -> x.setLuck(-1));
    }

    // ---- processes and time

    @Says(part = "Terms", words = NOTHING)
    static void startChangesNothing() {
        refused(INDEX, RefusalEdgeTest::almostFull, "with none", x -> x.start(7, 0, 0));
        refused(ARGUMENT, RefusalEdgeTest::almostFull, "rank 10", x -> x.start(6, 10, 0));
        refused(ARGUMENT, RefusalEdgeTest::almostFull, "delay 1000", x -> x.start(6, 0, 1000));
        refused(STATE, Worlds::full, "a 25th", x -> x.start(7, 0, 0));
    }

    private static Sandglass eventless() {
        Sandglass x = Worlds.states();
        x.cancel(0);
        x.cancel(1);
        return x;
    }

    @Says(part = "Terms", words = NOTHING)
    static void stepChangesNothing() {
        refused(STATE, RefusalEdgeTest::eventless, "without an event", Sandglass::step);
        refused(STATE, Sandglass::new, "of a new object", Sandglass::step);
    }

    @Says(part = "Terms", words = NOTHING)
    static void runChangesNothing() {
        refused(ARGUMENT, Worlds::full, "-1 ticks", x -> x.run(-1));
        refused(ARGUMENT, RefusalEdgeTest::almostFull, "1000 ticks", x -> x.run(1000));
    }

    @Says(part = "Terms", words = NOTHING)
    static void interruptChangesNothing() {
        refused(INDEX, Worlds::full, "of none", x -> x.interrupt(24));
        for (int state : new int[] {0, 5, 6, 7}) {
            refused(STATE, RefusalEdgeTest::withHandlers, "state " + state, x -> x.interrupt(state));
        }
    }

    /** As one that is refused must not move to its HANDLER either. */
    private static Sandglass withHandlers() {
        Sandglass x = Worlds.states();
        for (int i = 0; i < 7; i++) {
            x.setHandler(i, 1);
        }
        return x;
    }

    @Says(part = "Terms", words = NOTHING)
    static void cancelChangesNothing() {
        refused(INDEX, Worlds::full, "of none", x -> x.cancel(-1));
        for (int state : new int[] {5, 6, 7}) {
            refused(STATE, RefusalEdgeTest::withHandlers, "state " + state, x -> x.cancel(state));
        }
    }

    // ---- asking

    @Says(part = "Terms", words = NOTHING)
    static void askingChangesNothing() {
        refused(INDEX, Worlds::full, "stateOf", x -> x.stateOf(24));
        refused(INDEX, Worlds::full, "placeOf", x -> x.placeOf(24));
        refused(INDEX, Worlds::full, "rankOf", x -> x.rankOf(24));
        refused(INDEX, Worlds::full, "restOf", x -> x.restOf(24));
        refused(INDEX, Worlds::full, "markOf", x -> x.markOf(24));
        refused(INDEX, Worlds::full, "eventOf", x -> x.eventOf(24));
        refused(INDEX, Worlds::full, "holds", x -> x.holds(24, 0));
        refused(INDEX, Worlds::full, "free", x -> x.free(6));
        refused(INDEX, Worlds::full, "queued", x -> x.queued(6));
        refused(INDEX, Worlds::full, "queuedAt", x -> x.queuedAt(0, FAR));
        refused(INDEX, Worlds::full, "busy", x -> x.busy(6));
        refused(INDEX, Worlds::full, "queueing", x -> x.queueing(6));
        refused(INDEX, Worlds::full, "longest", x -> x.longest(6));
        refused(INDEX, Worlds::full, "level", x -> x.level(4));
        refused(INDEX, Worlds::full, "blocked", x -> x.blocked(4, true));
        refused(INDEX, Worlds::full, "area", x -> x.area(4));
        refused(INDEX, Worlds::full, "awaiting", x -> x.awaiting(4));
    }

    @Says(part = "Terms", words = NOTHING)
    static void askingForTalliesChangesNothing() {
        refused(INDEX, Worlds::full, "tallied", x -> x.tallied(4));
        refused(INDEX, Worlds::full, "ofTally", x -> x.ofTally(4, 0));
        refused(ARGUMENT, Worlds::full, "ofTally", x -> x.ofTally(0, 4));
        refused(INDEX, Worlds::full, "batches", x -> x.batches(4));
        refused(INDEX, Worlds::full, "sumOf", x -> x.sumOf(0, FAR));
        refused(INDEX, Worlds::full, "spread", x -> (long) x.spread(4));
    }

    @Says(part = "Terms", words = NOTHING)
    static void askingAheadChangesNothing() {
        refused(INDEX, Worlds::full, "endOf", x -> x.endOf(24, 9));
        refused(ARGUMENT, Worlds::full, "endOf", x -> x.endOf(0, 101));
        refused(INDEX, Worlds::full, "wouldBeBusy", x -> x.wouldBeBusy(6, 9));
        refused(ARGUMENT, Worlds::full, "wouldBeBusy", x -> x.wouldBeBusy(0, 1000));
    }

    // ---- the one that is named first

    @Says(part = "Terms", words = FIRST)
    static void firstOfAddResource() {
        refused(ARGUMENT, Worlds::full, "a seventh of kind 3", x -> x.addResource(3, 1));
        refused(ARGUMENT, Worlds::full, "a seventh of 0 units", x -> x.addResource(0, 0));
    }

    @Says(part = "Terms", words = FIRST)
    static void firstOfAddStore() {
        refused(ARGUMENT, Worlds::full, "a fifth with room 0", x -> x.addStore(0, 0));
        refused(ARGUMENT, Worlds::full, "a fifth with level 2 of 1", x -> x.addStore(1, 2));
    }

    @Says(part = "Terms", words = FIRST)
    static void firstOfAddTally() {
        refused(ARGUMENT, Worlds::full, "a fifth with batch 0", x -> x.addTally(0));
    }

    @Says(part = "Terms", words = FIRST)
    static void firstOfAdd() {
        refused(INDEX, Worlds::full, "to none, code 14", x -> x.add(8, 14, 0, 0));
        refused(INDEX, Worlds::full, "to none, WAIT -1", x -> x.add(-1, 0, -1, 0));
        refused(ARGUMENT, Worlds::full, "a 17th with code -1", x -> x.add(7, -1, 0, 0));
        refused(ARGUMENT, Worlds::full, "a 17th with WAIT 100", x -> x.add(7, 0, 100, 0));
        refused(ARGUMENT, Worlds::full, "behind a start, with SEIZE of none", x -> x.add(0, 1, 6, 1));
    }

    @Says(part = "Terms", words = FIRST)
    static void firstOfSetHandler() {
        refused(INDEX, Worlds::full, "of none, handler 16", x -> x.setHandler(8, 16));
        refused(INDEX, Worlds::full, "of none, handler -2", x -> x.setHandler(-1, -2));
    }

    @Says(part = "Terms", words = FIRST)
    static void firstOfStart() {
        refused(INDEX, RefusalEdgeTest::almostFull, "of none, rank 10", x -> x.start(7, 10, 0));
        refused(INDEX, RefusalEdgeTest::almostFull, "of none, delay -1", x -> x.start(-1, 0, -1));
        refused(INDEX, Worlds::full, "a 25th of none", x -> x.start(8, 0, 0));
        refused(INDEX, Worlds::full, "a 25th of none, rank 10", x -> x.start(8, 10, 0));
        refused(ARGUMENT, Worlds::full, "a 25th of rank 10", x -> x.start(0, 10, 0));
        refused(ARGUMENT, Worlds::full, "a 25th with delay 1000", x -> x.start(0, 0, 1000));
    }

    @Says(part = "Terms", words = FIRST)
    static void firstOfOfTally() {
        refused(INDEX, Worlds::full, "of none, what 4", x -> x.ofTally(4, 4));
        refused(INDEX, Sandglass::new, "of none, what -1", x -> x.ofTally(0, -1));
    }

    @Says(part = "Terms", words = FIRST)
    static void firstOfEndOf() {
        refused(INDEX, Worlds::full, "of none, most 101", x -> x.endOf(24, 101));
        refused(INDEX, Sandglass::new, "of none, most 0", x -> x.endOf(0, 0));
    }

    @Says(part = "Terms", words = FIRST)
    static void firstOfWouldBeBusy() {
        refused(INDEX, Worlds::full, "of none, 1000 ticks", x -> x.wouldBeBusy(6, 1000));
        refused(INDEX, Sandglass::new, "of none, -1 ticks", x -> x.wouldBeBusy(0, -1));
    }

    // ---- the last call

    @Says(part = "What it is", words = "An object is used for at most 512 calls after it has been made")
    static void theLastCallOfAll() {
        Sandglass x = new Sandglass();
        x.addStore(99, 99);
        for (int i = 0; i < 510; i++) {
            x.run(999);
        }
        due("the 512th call", 99 * 510 * 999, x.area(0));
        Sandglass y = new Sandglass();
        y.addResource(0, 1);
        script(y, seize(0, 1), await(0));
        for (int i = 0; i < 24; i++) {
            y.start(0, 0, 0);
        }
        for (int i = 0; i < 483; i++) {
            y.run(999);
        }
        due("the 512th call", 23 * 483 * 999, y.queueing(0));
    }
}
