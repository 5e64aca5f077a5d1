/** The boundaries of the Terms 3: each instruction. */
public final class InstructionsEdgeTest extends Check {

    public static void main(String[] args) {
        tests(InstructionsEdgeTest.class);
        end();
    }

    // ---- all of them

    @Says(part = "Terms 3", words = "3 INSTRUCTIONS, by their codes:")
    static void nothingButWhatItsCodeSays() {
        int[][] all = {pause(1, 0), seize(1, 1), release(1, 1), put(1, 1), get(1, 1), {5, 1, 9}, {6, 1, 9},
            spawn(1, 1), {8, 1, 9}, {9, 1, 9}, again(1, 1), {11, 1, 9}, {12, 1, 9}, skip(1, 1)};
        int[] places = {3, 4, 4, 4, 4, 4, 3, 4, 4, 4, 2, 3, 4, 4};
        for (int code = 0; code < all.length; code++) {
            Sandglass x = withOneOfEach(all[code]);
            x.step();
            due("free behind the code " + code, code == 1 ? 1 : code == 2 ? 3 : 2, x.free(1));
            due("level", code == 3 ? 6 : code == 4 ? 4 : 5, x.level(1));
            due("awaiting", code == 5 ? 0 : code == 6 ? 2 : 1, x.awaiting(1));
            due("processes", code == 7 ? 5 : 4, x.processes());
            due("mark", code == 8 ? 3 : 0, x.markOf(3));
            due("tallied", code == 9 ? 1 : 0, x.tallied(1));
            due("rank", code == 12 ? 1 : 4, x.rankOf(3));
            due("state", code == 0 || code == 10 || code == 11 ? 1 : 4, x.stateOf(3));
            due("rest", code == 11 ? 0 : 2, x.restOf(3));
            due("place", places[code], x.placeOf(3));
            due("luck", 0, x.luck());
            due("of the other ones", 9 + 5, x.free(0) + x.level(0));
            due("blocked", 0, x.blocked(1, false) + x.blocked(1, true));
            due("queued", 0, x.queued(1));
        }
    }

    /** The process 3 holds a unit of the resource 1, has a REST of 2, and is about to do this. */
    private static Sandglass withOneOfEach(int[] instruction) {
        Sandglass x = new Sandglass();
        for (int i = 0; i < 2; i++) {
            x.addResource(1, 9);
            x.addStore(9, 5);
            x.addTally(1);
        }
        script(x, await(1));
        script(x, await(2));
        script(x, seize(1, 6), await(2));
        script(x, seize(1, 1), pause(5, 0), instruction, await(3));
        x.start(0, 4, 0);
        x.start(1, 4, 0);
        x.start(2, 4, 0);
        x.start(3, 4, 0);
        x.run(3);
        x.interrupt(3);
        return x;
    }

    // ---- 0 WAIT

    @Says(part = "Terms 3", words = "0 WAIT: it is WAITING, and its event is a ticks later")
    static void waitTicks() {
        int[] ticks = {0, 1, 99};
        for (int a : ticks) {
            Sandglass x = new Sandglass();
            script(x, pause(a, 0));
            x.start(0, 0, 4);
            x.step();
            due("state", 1, x.stateOf(0));
            due("event", 4 + a, x.eventOf(0));
        }
    }

    @Says(part = "Terms 3", words = "if b is not 0, a drawn number below b more")
    static void waitDrawn() {
        int[][] luckAndBound = {{13, 50}, {32, 50}, {0, 50}, {0, 1}, {0, 2}};
        int[] more = {0, 49, 27, 0, 1};
        for (int i = 0; i < more.length; i++) {
            Sandglass x = new Sandglass();
            script(x, pause(99, luckAndBound[i][1]));
            x.setLuck(luckAndBound[i][0]);
            x.start(0, 0, 0);
            x.step();
            due("event", 99 + more[i], x.eventOf(0));
            due("LUCK was drawn", 1, x.luck() == luckAndBound[i][0] ? 0 : 1);
        }
        Sandglass plain = new Sandglass();
        script(plain, pause(7, 0));
        plain.setLuck(13);
        plain.start(0, 0, 0);
        plain.step();
        due("event with b 0", 7, plain.eventOf(0));
        due("LUCK with b 0", 13, plain.luck());
    }

    @Says(part = "Terms 3", words = "(0 in all, too)")
    static void waitOfZero() {
        Sandglass x = new Sandglass();
        script(x, pause(0, 0), await(0));
        script(x, pause(0, 50), await(0));
        x.setLuck(13);
        x.start(0, 0, 0);
        x.start(1, 0, 0);
        x.step();
        due("it is WAITING", 1, x.stateOf(0));
        due("event at this TIME", 0, x.eventOf(0));
        due("made ahead", 1, x.step());
        due("a draw of 0", 0, x.eventOf(1));
        due("it goes on", 0, x.step());
        due("and the other", 1, x.step());
        due("time", 0, x.time());
    }

    @Says(part = "Terms 3", words = "its event is a ticks later, and, if b is not 0, a drawn number below"
            + " b more (0 in all, too); it stops.")
    static void waitStops() {
        Sandglass x = new Sandglass();
        script(x, pause(0, 0), rank(7));
        x.start(0, 3, 0);
        x.step();
        due("rank, as it has stopped", 3, x.rankOf(0));
        due("place", 1, x.placeOf(0));
    }

    // ---- 1 SEIZE, 2 RELEASE

    @Says(part = "Terms 3", words = "1 SEIZE: it asks for b units of the resource a (see 4)."
            + " If it gets them at once, it goes on")
    static void seizeAtOnce() {
        Sandglass x = new Sandglass();
        x.addResource(0, 4);
        x.addResource(0, 4);
        script(x, seize(1, 4), rank(7), await(0));
        x.start(0, 3, 0);
        x.step();
        due("holds", 4, x.holds(0, 1));
        due("free of the other", 4, x.free(0));
        due("it went on", 7, x.rankOf(0));
    }

    @Says(part = "Terms 3", words = "otherwise it is QUEUED, and stops.")
    static void seizeQueued() {
        Sandglass x = new Sandglass();
        x.addResource(0, 4);
        script(x, seize(0, 1), rank(7), await(0));
        script(x, seize(0, 4), rank(7), await(0));
        x.start(0, 3, 0);
        x.start(1, 3, 0);
        x.run(0);
        due("state", 2, x.stateOf(1));
        due("event", -1, x.eventOf(1));
        due("rank, as it has stopped", 3, x.rankOf(1));
        due("place behind the SEIZE", 1, x.placeOf(1));
        due("holds", 0, x.holds(1, 0));
    }

    @Says(part = "Terms 3", words = "2 RELEASE: b of the units that it holds of the resource a are"
            + " released")
    static void releaseOfSome() {
        Sandglass x = new Sandglass();
        x.addResource(0, 9);
        x.addResource(0, 9);
        script(x, seize(0, 9), seize(1, 9), release(0, 1), await(0), release(0, 7), await(0),
                release(0, 1), rank(7), await(0));
        x.start(0, 3, 0);
        int[] held = {8, 1, 0};
        for (int h : held) {
            x.run(0);
            due("holds", h, x.holds(0, 0));
            due("free", 9 - h, x.free(0));
            due("of the other resource", 9, x.holds(0, 1));
            x.interrupt(0);
        }
        due("it went on", 7, x.rankOf(0));
    }

    @Says(part = "Terms 3", words = "all of them, if these are fewer.")
    static void releaseOfAll() {
        int[] asked = {4, 5, 9};
        for (int b : asked) {
            Sandglass x = new Sandglass();
            x.addResource(0, 9);
            script(x, seize(0, 4), release(0, b), await(0));
            script(x, seize(0, 5), await(0));
            x.start(1, 0, 0);
            x.start(0, 0, 0);
            x.run(0);
            due("holds behind RELEASE of " + b, 0, x.holds(1, 0));
            due("free", 4, x.free(0));
            due("the other one's", 5, x.holds(0, 0));
        }
        Sandglass none = new Sandglass();
        none.addResource(0, 2);
        script(none, release(0, 9), rank(7), await(0));
        none.start(0, 3, 0);
        none.step();
        due("free, as it holds none", 2, none.free(0));
        due("it went on", 7, none.rankOf(0));
    }

    // ---- 3 PUT, 4 GET

    @Says(part = "Terms 3", words = "3 PUT: b into the store a; 4 GET: b out of it (see 5)."
            + " If it is done at once, it goes on")
    static void putAndGetAtOnce() {
        Sandglass x = new Sandglass();
        x.addStore(9, 0);
        x.addStore(9, 9);
        script(x, put(0, 7), get(0, 2), get(1, 9), put(1, 1), rank(7), await(0));
        x.start(0, 3, 0);
        x.step();
        due("level", 5, x.level(0));
        due("level of the other", 1, x.level(1));
        due("it went on", 7, x.rankOf(0));
    }

    @Says(part = "Terms 3", words = "otherwise it is BLOCKED, and stops.")
    static void putAndGetBlocked() {
        Sandglass x = new Sandglass();
        x.addStore(9, 0);
        x.addStore(9, 9);
        script(x, get(0, 1), rank(7), await(0));
        script(x, put(1, 1), rank(7), await(0));
        x.start(0, 3, 0);
        x.start(1, 3, 0);
        x.run(0);
        for (int p = 0; p < 2; p++) {
            due("state", 3, x.stateOf(p));
            due("event", -1, x.eventOf(p));
            due("rank, as it has stopped", 3, x.rankOf(p));
            due("place", 1, x.placeOf(p));
        }
        due("blocked with a GET", 1, x.blocked(0, true));
        due("blocked with a PUT", 1, x.blocked(1, false));
    }

    // ---- 5 SIGNAL, 6 AWAIT

    @Says(part = "Terms 3", words = "5 SIGNAL: all that are AWAITING the signal a are READY")
    static void signalToAll() {
        Sandglass x = new Sandglass();
        script(x, await(0), await(0));
        script(x, await(3), await(3));
        script(x, signal(3), rank(7), await(1));
        for (int i = 0; i < 22; i++) {
            x.start(i == 0 ? 0 : 1, 0, 0);
        }
        x.run(5);
        x.start(2, 3, 0);
        due("awaiting 3", 21, x.awaiting(3));
        x.step();
        due("awaiting 3", 0, x.awaiting(3));
        due("awaiting 0", 1, x.awaiting(0));
        due("the first of them", 0, x.stateOf(1));
        due("the last of them", 0, x.stateOf(21));
        due("that of another signal", 4, x.stateOf(0));
        due("events", 21, x.events());
        due("the one who signals goes on", 7, x.rankOf(22));
    }

    @Says(part = "Terms 3", words = "in the order in which they came to it, each with an event at this"
            + " TIME.")
    static void signalInTheirOrder() {
        Sandglass x = new Sandglass();
        script(x, await(2), await(1));
        script(x, signal(2));
        x.start(0, 0, 3);
        x.start(0, 9, 1);
        x.start(0, 5, 2);
        x.start(0, 5, 1);
        x.run(3);
        x.setHandler(0, 0);
        x.interrupt(1);
        x.run(3);
        x.start(1, 0, 2);
        due("the one who signals", 4, stepAt(x, 8));
        due("event", 8, x.eventOf(0));
        due("came at 1", 3, stepAt(x, 8));
        due("came at 2", 2, stepAt(x, 8));
        due("came at 3", 0, stepAt(x, 8));
        due("came anew at 3, behind that", 1, stepAt(x, 8));
    }

    @Says(part = "Terms 3", words = "in the order in which they came to it")
    static void signalWhateverRowTheyWereIn() {
        Sandglass x = new Sandglass();
        x.addResource(1, 1);
        script(x, seize(0, 1), release(0, 1), await(2), await(1));
        script(x, seize(0, 1), pause(1, 0));
        x.start(1, 0, 0);
        x.start(0, 7, 0);
        x.start(0, 3, 2);
        x.run(3);
        due("awaiting", 2, x.awaiting(2));
        x.start(script(x, signal(2)), 0, 0);
        due("the one who signals", 3, x.step());
        due("came first, from the QUEUE", 1, x.step());
        due("came next, with a smaller rank", 2, x.step());
    }

    private static int stepAt(Sandglass x, int time) {
        int process = x.step();
        due("time", time, x.time());
        return process;
    }

    @Says(part = "Terms 3", words = "all that are AWAITING the signal a")
    static void signalToNobody() {
        Sandglass x = new Sandglass();
        script(x, signal(2), await(2), rank(7));
        x.start(0, 3, 0);
        x.step();
        due("a SIGNAL is not kept for one that awaits later", 1, x.awaiting(2));
        due("events", 0, x.events());
        Sandglass y = new Sandglass();
        script(y, await(2), await(2));
        script(y, signal(2));
        y.start(0, 0, 0);
        y.run(0);
        y.start(1, 0, 0);
        due("the SIGNAL, and the one that it reached", 2, y.run(0));
        due("it awaits the next one", 1, y.awaiting(2));
    }

    @Says(part = "Terms 3", words = "6 AWAIT: it is AWAITING the signal a, and stops.")
    static void awaitStops() {
        Sandglass x = new Sandglass();
        script(x, await(3), rank(7));
        x.start(0, 3, 0);
        x.step();
        due("state", 4, x.stateOf(0));
        due("awaiting 3", 1, x.awaiting(3));
        due("awaiting 0", 0, x.awaiting(0));
        due("rank, as it has stopped", 3, x.rankOf(0));
        due("event", -1, x.eventOf(0));
    }

    // ---- 7 SPAWN

    @Says(part = "Terms 3", words = "7 SPAWN: a process is started with the script a, the RANK b and the"
            + " delay 0")
    static void spawnStarts() {
        int[] ranks = {0, 9};
        for (int rank : ranks) {
            Sandglass x = new Sandglass();
            script(x, mark());
            x.addScript();
            x.add(1, 7, 0, rank);
            x.add(1, 7, 1, rank);
            x.add(1, 12, 4, 0);
            x.start(1, 5, 8);
            x.start(0, 5, 8);
            x.step();
            due("processes", 4, x.processes());
            due("rank", rank, x.rankOf(2));
            due("state", 0, x.stateOf(2));
            due("event", 8, x.eventOf(2));
            due("mark", 8, x.markOf(2));
            due("the one who spawns goes on", 4, x.rankOf(0));
            due("its own rank stays that of its own", rank, x.rankOf(3));
            due("made ahead", 1, x.step());
            due("the first one spawned", 2, x.step());
            due("the second one spawned", 3, x.step());
            due("with its own script: two more", 6, x.processes());
        }
    }

    @Says(part = "Terms 3", words = "nothing is done, if there are 24.")
    static void spawnOfTheTwentyFifth() {
        for (int before = 22; before <= 23; before++) {
            Sandglass x = new Sandglass();
            script(x);
            script(x, spawn(0, 4), rank(7), await(0));
            for (int i = 0; i < before; i++) {
                x.start(0, 0, 0);
            }
            x.run(0);
            x.start(1, 3, 0);
            x.step();
            due("processes", 24, x.processes());
            due("events", before == 22 ? 1 : 0, x.events());
            due("it goes on", 7, x.rankOf(before));
            due("done", 3, x.done());
            due("the last one's rank", before == 22 ? 4 : 7, x.rankOf(23));
        }
    }

    // ---- 8 MARK, 9 TALLY

    @Says(part = "Terms 3", words = "8 MARK: its MARK becomes the TIME.")
    static void markBecomesTheTime() {
        Sandglass x = new Sandglass();
        script(x, mark(), pause(4, 0), pause(3, 0), mark());
        x.run(2);
        x.start(0, 0, 5);
        x.start(0, 0, 9);
        due("mark", 2, x.markOf(0));
        x.step();
        due("mark", 7, x.markOf(0));
        due("the other one's", 2, x.markOf(1));
        x.step();
        due("mark without a MARK", 7, x.markOf(0));
        x.run(10);
        due("mark", 14, x.markOf(0));
    }

    @Says(part = "Terms 3", words = "9 TALLY: the TIME less its MARK is tallied at a.")
    static void tallyOfTheTime() {
        Sandglass x = new Sandglass();
        x.addTally(1);
        x.addTally(1);
        script(x, mark(), tally(1), pause(6, 0), tally(1));
        x.run(3);
        x.start(0, 0, 4);
        x.run(4);
        due("at once", 0, x.ofTally(1, 3));
        due("tallied", 1, x.tallied(1));
        x.run(6);
        due("6 ticks later", 6, x.ofTally(1, 3));
        due("tallied", 2, x.tallied(1));
        due("tallied at the other", 0, x.tallied(0));
        due("its MARK stays", 7, x.markOf(0));
    }

    // ---- 10 AGAIN

    @Says(part = "Terms 3", words = "10 AGAIN: if its counter of this instruction is below b, that becomes"
            + " 1 more, and PLACE becomes a")
    static void againJumps() {
        int[] times = {0, 1, 19, 20};
        for (int b : times) {
            Sandglass x = new Sandglass();
            script(x, mark(), again(1, b), await(0));
            x.start(0, 0, 0);
            x.step();
            due("done: MARK, " + b + " times AGAIN, once more, AWAIT", 1 + b + 1 + 1, x.done());
            due("state", 4, x.stateOf(0));
        }
        Sandglass far = new Sandglass();
        script(far, again(15, 1), mark());
        far.start(0, 0, 0);
        far.step();
        due("to a place where there is none", 15, far.placeOf(0));
        due("state", 5, far.stateOf(0));
        Sandglass last = new Sandglass();
        last.addScript();
        last.add(0, 10, 15, 1);
        for (int i = 1; i < 15; i++) {
            last.add(0, 12, 9, 0);
        }
        last.add(0, 6, 0, 0);
        last.start(0, 3, 0);
        last.step();
        due("to the 16th", 4, last.stateOf(0));
        due("those between are passed by", 3, last.rankOf(0));
    }

    @Says(part = "Terms 3", words = "otherwise the counter becomes 0.")
    static void againCountsAnew() {
        Sandglass x = new Sandglass();
        script(x, pause(1, 0), again(0, 2), await(0));
        x.setHandler(0, 0);
        x.start(0, 0, 0);
        for (int round = 0; round < 3; round++) {
            due("events of a round", 4, x.run(10));
            due("state", 4, x.stateOf(0));
            due("time", 10 * round + 10, x.time());
            x.interrupt(0);
        }
        Sandglass cut = new Sandglass();
        script(cut, pause(1, 0), again(0, 2), await(0));
        cut.setHandler(0, 0);
        cut.start(0, 0, 0);
        cut.run(1);
        cut.interrupt(0);
        due("cut off behind one of two, it counts on: one is left", 3, cut.run(10));
    }

    // ---- 11 REST, 12 RANK, 13 SKIP

    @Says(part = "Terms 3", words = "11 REST: it is WAITING, and its event is REST ticks later; REST"
            + " becomes 0; it stops.")
    static void restTicks() {
        int[] waited = {0, 98, 99};
        for (int ticks : waited) {
            Sandglass x = new Sandglass();
            script(x, pause(99, 0), rest(), rank(7), rest());
            script(x);
            x.start(1, 0, 99);
            x.start(0, 3, 0);
            x.run(Math.min(ticks, 98));
            if (ticks == 99) {
                due("ahead of its event", 0, x.step());
            }
            due("interrupt", 99 - ticks, x.interrupt(1));
            due("rest", 99 - ticks, x.restOf(1));
            due("step", 1, x.step());
            due("state", 1, x.stateOf(1));
            due("event", 99, x.eventOf(1));
            due("rest", 0, x.restOf(1));
            due("it stops", 3, x.rankOf(1));
            x.run(99 - ticks);
            due("a REST of 0: it goes on at this TIME", 5, x.stateOf(1));
            due("time", 99, x.time());
        }
    }

    @Says(part = "Terms 3", words = "12 RANK: its RANK becomes a.")
    static void rankBecomes() {
        Sandglass x = new Sandglass();
        x.addResource(1, 1);
        script(x, rank(0), await(0), rank(9), await(0));
        script(x, seize(0, 1), await(1));
        script(x, rank(8), seize(0, 1), await(1));
        x.start(0, 5, 0);
        x.step();
        due("rank", 0, x.rankOf(0));
        x.interrupt(0);
        x.step();
        due("rank", 9, x.rankOf(0));
        x.start(1, 0, 0);
        x.start(2, 0, 0);
        x.start(1, 7, 0);
        x.run(0);
        due("it counts from then on", 3, x.queuedAt(0, 0));
        due("behind", 2, x.queuedAt(0, 1));
    }

    @Says(part = "Terms 3", words = "13 SKIP: if the LEVEL of the store a is less than b, PLACE becomes 1"
            + " more.")
    static void skipBelow() {
        int[][] levelAndLeast = {{0, 1}, {4, 5}, {5, 5}, {6, 5}, {98, 99}, {99, 99}, {1, 1}};
        for (int[] row : levelAndLeast) {
            Sandglass x = new Sandglass();
            x.addStore(99, 50);
            x.addStore(99, row[0]);
            script(x, skip(1, row[1]), rank(7), await(0));
            x.start(0, 3, 0);
            x.step();
            due("rank with a LEVEL of " + row[0] + " and SKIP of " + row[1],
                    row[0] < row[1] ? 3 : 7, x.rankOf(0));
            due("place", 3, x.placeOf(0));
        }
    }

    @Says(part = "Terms 3", words = "PLACE becomes 1 more.")
    static void skipBeyondTheEnd() {
        Sandglass x = new Sandglass();
        x.addStore(5, 0);
        x.addScript();
        for (int i = 0; i < 15; i++) {
            x.add(0, 8, 0, 0);
        }
        x.add(0, 13, 0, 1);
        script(x, skip(0, 1), mark());
        x.start(0, 0, 0);
        x.start(1, 0, 0);
        x.run(0);
        due("behind the 16th instruction", 17, x.placeOf(0));
        due("state", 5, x.stateOf(0));
        due("past the last one", 2, x.placeOf(1));
        due("state", 5, x.stateOf(1));
        due("done", 17, x.done());
    }
}
