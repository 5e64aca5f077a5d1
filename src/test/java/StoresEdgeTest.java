/** The boundaries of the Terms 5: stores, and those that are BLOCKED at them. */
public final class StoresEdgeTest extends Check {

    public static void main(String[] args) {
        tests(StoresEdgeTest.class);
        end();
    }

    private static Sandglass withStore(int room, int level) {
        Sandglass x = new Sandglass();
        x.addStore(room, level);
        return x;
    }

    private static int putter(Sandglass x, int amount) {
        return script(x, put(0, amount), await(0));
    }

    private static int getter(Sandglass x, int amount) {
        return script(x, get(0, amount), await(1));
    }

    /** Starts a process now, lets it happen, and answers its state. */
    private static int comes(Sandglass x, int script) {
        int process = x.start(script, (script * 7) % 10, 0);
        due("the one who comes", process, x.step());
        return x.stateOf(process);
    }

    private static void dueStore(Sandglass x, int level, int puts, int gets) {
        due("level", level, x.level(0));
        due("blocked with a PUT", puts, x.blocked(0, false));
        due("blocked with a GET", gets, x.blocked(0, true));
    }

    private static void dueSteps(Sandglass x, int... processes) {
        due("events", processes.length, x.events());
        for (int p : processes) {
            due("event at this TIME", x.time(), x.eventOf(p));
            due("READY", 0, x.stateOf(p));
        }
        for (int p : processes) {
            due("goes on", p, x.step());
        }
    }

    @Says(part = "Terms 5", words = "Each has two rows, of those that are BLOCKED with a PUT, and of those"
            + " with a GET, as they came.")
    static void rowsAsTheyCame() {
        Sandglass x = withStore(1, 1);
        int put = putter(x, 1);
        int[] ranks = {5, 9, 0, 5};
        for (int rank : ranks) {
            x.start(put, rank, 0);
        }
        x.run(0);
        dueStore(x, 1, 4, 0);
        int get = getter(x, 1);
        for (int i = 0; i < 4; i++) {
            comes(x, get);
            dueStore(x, 1, 3 - i, 0);
            dueSteps(x, i);
        }
        Sandglass y = withStore(1, 0);
        get = getter(y, 1);
        for (int rank : ranks) {
            y.start(get, rank, 0);
        }
        y.run(0);
        dueStore(y, 0, 0, 4);
        put = putter(y, 1);
        for (int i = 0; i < 4; i++) {
            comes(y, put);
            dueStore(y, 0, 0, 3 - i);
            dueSteps(y, i);
        }
    }

    @Says(part = "Terms 5", words = "as they came.")
    static void rowsWhateverQueueTheyWereIn() {
        for (int isGet = 0; isGet < 2; isGet++) {
            Sandglass x = withStore(9, isGet == 0 ? 9 : 0);
            x.addResource(1, 1);
            int[] asking = isGet == 0 ? put(0, 2) : get(0, 2);
            int[] helping = isGet == 0 ? get(0, 2) : put(0, 2);
            script(x, seize(0, 1), release(0, 1), asking, await(0));
            script(x, seize(0, 1), pause(1, 0));
            x.start(1, 0, 0);
            x.start(0, 7, 0);
            x.start(0, 3, 2);
            x.run(3);
            due("blocked", 2, x.blocked(0, isGet == 1));
            comes(x, script(x, helping));
            due("came first, from the QUEUE", 0, x.stateOf(1));
            due("came next, with a smaller rank", 3, x.stateOf(2));
        }
    }

    @Says(part = "Terms 5", words = "Each has two rows")
    static void rowsOfEachStore() {
        Sandglass x = new Sandglass();
        for (int i = 0; i < 4; i++) {
            x.addStore(5, i % 2 == 0 ? 5 : 0);
            x.start(script(x, i % 2 == 0 ? put(i, 1) : get(i, 1), await(0)), 0, 0);
        }
        x.run(0);
        for (int i = 0; i < 4; i++) {
            due("blocked with a PUT at " + i, 1 - i % 2, x.blocked(i, false));
            due("blocked with a GET at " + i, i % 2, x.blocked(i, true));
        }
        comes(x, script(x, get(2, 1), await(1)));
        due("the one at 2 is done", 0, x.blocked(2, false));
        due("that at 0 is not", 1, x.blocked(0, false));
    }

    @Says(part = "Terms 5", words = "A PUT can be done if LEVEL + b is not above the room")
    static void putUpToTheRoom() {
        int[] rooms = {1, 10, 99};
        for (int room : rooms) {
            Sandglass x = withStore(room, room - 1);
            due("state behind a PUT up to the room", 4, comes(x, putter(x, 1)));
            dueStore(x, room, 0, 0);
            due("state behind a PUT of one more", 3, comes(x, putter(x, 1)));
            dueStore(x, room, 1, 0);
        }
        Sandglass all = withStore(10, 0);
        due("all the room", 4, comes(all, putter(all, 10)));
        Sandglass none = withStore(10, 1);
        due("one above", 3, comes(none, putter(none, 10)));
        dueStore(none, 1, 1, 0);
    }

    @Says(part = "Terms 5", words = "a GET if LEVEL is b or more")
    static void getDownToNothing() {
        int[] rooms = {1, 10, 99};
        for (int room : rooms) {
            Sandglass x = withStore(room, room);
            due("state behind a GET of all", 4, comes(x, getter(x, room)));
            dueStore(x, 0, 0, 0);
            due("state behind a GET of one more", 3, comes(x, getter(x, 1)));
            dueStore(x, 0, 0, 1);
        }
        Sandglass more = withStore(10, 5);
        due("the LEVEL is more", 4, comes(more, getter(more, 4)));
        dueStore(more, 1, 0, 0);
        Sandglass less = withStore(10, 5);
        due("the LEVEL is one less", 3, comes(less, getter(less, 6)));
        dueStore(less, 5, 0, 1);
    }

    @Says(part = "Terms 5", words = "One is done at once, if nobody is BLOCKED there with the same code,"
            + " and it can be done.")
    static void doneAtOnce() {
        Sandglass x = withStore(10, 8);
        due("a PUT that cannot be done", 3, comes(x, putter(x, 3)));
        due("one that can, behind it", 3, comes(x, putter(x, 1)));
        dueStore(x, 8, 2, 0);
        due("a GET is done though PUTs are BLOCKED", 4, comes(x, script(x, get(0, 8), await(1))));
        Sandglass y = withStore(10, 2);
        due("a GET that cannot be done", 3, comes(y, getter(y, 9)));
        due("one that can, behind it", 3, comes(y, getter(y, 1)));
        dueStore(y, 2, 0, 2);
        due("a PUT is done though GETs are BLOCKED", 4, comes(y, putter(y, 1)));
        dueStore(y, 3, 0, 2);
    }

    @Says(part = "Terms 5", words = "A process that would put or get more than there is room in all is"
            + " BROKEN.")
    static void moreThanTheRoom() {
        Sandglass x = withStore(5, 5);
        due("a PUT of all the room waits", 3, comes(x, putter(x, 5)));
        due("a PUT of one more", 6, comes(x, putter(x, 6)));
        dueStore(x, 5, 1, 0);
        due("a GET of one more", 6, comes(x, getter(x, 6)));
        dueStore(x, 5, 1, 0);
        due("a GET of all the room", 4, comes(x, getter(x, 5)));
        Sandglass y = withStore(98, 0);
        due("a GET of all the room waits", 3, comes(y, getter(y, 98)));
        due("a GET of one more", 6, comes(y, getter(y, 99)));
        due("a PUT of one more", 6, comes(y, putter(y, 99)));
        dueStore(y, 0, 0, 1);
    }

    @Says(part = "Terms 5", words = "Behind each PUT or GET that is done")
    static void behindWhatIsDone() {
        Sandglass x = withStore(10, 0);
        comes(x, getter(x, 4));
        comes(x, getter(x, 4));
        comes(x, getter(x, 4));
        comes(x, putter(x, 9));
        dueStore(x, 1, 0, 1);
        dueSteps(x, 0, 1);
        Sandglass y = withStore(10, 10);
        comes(y, putter(y, 4));
        comes(y, putter(y, 4));
        comes(y, putter(y, 4));
        comes(y, getter(y, 9));
        dueStore(y, 9, 1, 0);
        dueSteps(y, 0, 1);
        Sandglass nothing = withStore(10, 5);
        comes(nothing, putter(nothing, 6));
        comes(nothing, getter(nothing, 6));
        comes(nothing, putter(nothing, 1));
        dueStore(nothing, 5, 2, 1);
    }

    @Says(part = "Terms 5", words = "as long as the first GET in its row can be done, or, if not, the first"
            + " PUT in its row, it is done")
    static void firstGetThenFirstPut() {
        Sandglass x = withStore(10, 5);
        comes(x, putter(x, 6));
        comes(x, getter(x, 7));
        comes(x, getter(x, 1));
        comes(x, getter(x, 2));
        dueStore(x, 5, 1, 3);
        x.cancel(1);
        dueStore(x, 8, 0, 0);
        dueSteps(x, 2, 3, 0);
    }

    @Says(part = "Terms 5", words = "if not, the first PUT in its row")
    static void aGetAgainBehindEachPut() {
        Sandglass x = withStore(10, 2);
        comes(x, getter(x, 5));
        comes(x, putter(x, 9));
        comes(x, putter(x, 3));
        comes(x, putter(x, 4));
        dueStore(x, 2, 3, 1);
        x.cancel(1);
        dueStore(x, 4, 0, 0);
        dueSteps(x, 2, 0, 3);
    }

    @Says(part = "Terms 5", words = "as long as the first GET in its row can be done")
    static void onlyTheFirstOfEachRow() {
        Sandglass x = withStore(10, 4);
        comes(x, getter(x, 9));
        comes(x, getter(x, 6));
        comes(x, getter(x, 1));
        comes(x, putter(x, 7));
        comes(x, putter(x, 1));
        dueStore(x, 4, 2, 3);
        x.cancel(0);
        dueStore(x, 4, 2, 2);
        due("none behind a first one that cannot be done", 0, x.events());
    }

    @Says(part = "Terms 5", words = "and its process is READY, with an event at this TIME.")
    static void doneIsReady() {
        Sandglass x = withStore(10, 0);
        int user = script(x, get(0, 3), rank(8), await(2));
        x.start(user, 2, 0);
        x.run(6);
        comes(x, script(x, put(0, 4), pause(0, 0), await(2)));
        due("state", 0, x.stateOf(0));
        due("event", 6, x.eventOf(0));
        due("place", 1, x.placeOf(0));
        due("it has not gone on yet", 2, x.rankOf(0));
        due("it goes on, ahead of the next event of the one who put", 0, x.step());
        due("rank", 8, x.rankOf(0));
        due("then that", 1, x.step());
    }

    @Says(part = "Terms 5", words = "and behind each process that leaves one of the rows without it")
    static void asOneLeaves() {
        for (int how = 0; how < 2; how++) {
            Sandglass x = withStore(10, 8);
            comes(x, putter(x, 5));
            comes(x, putter(x, 4));
            comes(x, putter(x, 2));
            leave(x, 1, how);
            dueStore(x, 8, 2, 0);
            leave(x, 0, how);
            dueStore(x, 10, 0, 0);
            due("the one behind", 0, x.stateOf(2));
            Sandglass y = withStore(10, 2);
            comes(y, getter(y, 5));
            comes(y, getter(y, 4));
            comes(y, getter(y, 2));
            leave(y, 1, how);
            dueStore(y, 2, 0, 2);
            leave(y, 0, how);
            dueStore(y, 0, 0, 0);
            due("the one behind", 0, y.stateOf(2));
        }
    }

    private static void leave(Sandglass x, int process, int how) {
        if (how == 0) {
            x.interrupt(process);
        } else {
            x.cancel(process);
        }
    }
}
