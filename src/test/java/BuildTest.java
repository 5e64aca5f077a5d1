/** Promises 1 to 8: a new object, and what there is. */
public final class BuildTest {

    public static void main(String[] args) {
        newObject();
        addResource();
        addStore();
        addTally();
        addScript();
        add();
        addRanges();
        addTooLate();
        setHandler();
        setLuck();
        Check.end();
    }

    private static void newObject() {
        Check.promise(1, "a new object");
        Sandglass x = new Sandglass();
        Check.due("time", 0, x.time());
        Check.due("luck", 0, x.luck());
        Check.due("events", 0, x.events());
        Check.due("nextTime", -1, x.nextTime());
        Check.due("processes", 0, x.processes());
        Check.due("done", 0, x.done());
        for (int signal = 0; signal < 4; signal++) {
            Check.due("awaiting", 0, x.awaiting(signal));
        }
        long d = 58032;
        int[] told = {0, 0, 0, -1, 0, 0, 0, 0, 0, 0};
        for (int t : told) {
            d = d * 31 + t;
        }
        Check.due("digest", d, x.digest());
        Sandglass other = new Sandglass();
        x.addScript();
        x.start(0, 0, 0);
        Check.due("another object's processes", 0, other.processes());
        Check.dueThrow(Check.INDEX, other, "start of another object", () -> other.start(0, 0, 0));
    }

    private static void addResource() {
        Check.promise(2, "addResource");
        Sandglass x = new Sandglass();
        Check.dueThrow(Check.ARGUMENT, x, "kind -1", () -> x.addResource(-1, 1));
        Check.dueThrow(Check.ARGUMENT, x, "kind 3", () -> x.addResource(3, 1));
        Check.dueThrow(Check.ARGUMENT, x, "0 units", () -> x.addResource(0, 0));
        Check.dueThrow(Check.ARGUMENT, x, "10 units", () -> x.addResource(0, 10));
        Check.dueThrow(Check.ARGUMENT, x, "far kind",
                () -> x.addResource(Integer.MAX_VALUE, Integer.MIN_VALUE));
        Check.dueThrow(Check.INDEX, x, "free(0)", () -> x.free(0));
        for (int i = 0; i < 6; i++) {
            int units = i == 0 ? 1 : i == 1 ? 9 : i + 1;
            Check.due("its number", i, x.addResource(i % 3, units));
            Check.due("free", units, x.free(i));
            Check.due("queued", 0, x.queued(i));
            Check.due("busy", 0, x.busy(i));
            Check.due("queueing", 0, x.queueing(i));
            Check.due("longest", 0, x.longest(i));
        }
        Check.dueThrow(Check.STATE, x, "a seventh", () -> x.addResource(0, 1));
        Check.dueThrow(Check.ARGUMENT, x, "a wrong seventh", () -> x.addResource(0, 10));
        Check.dueThrow(Check.INDEX, x, "free(6)", () -> x.free(6));
    }

    private static void addStore() {
        Check.promise(3, "addStore");
        Sandglass x = new Sandglass();
        Check.dueThrow(Check.ARGUMENT, x, "room 0", () -> x.addStore(0, 0));
        Check.dueThrow(Check.ARGUMENT, x, "room 100", () -> x.addStore(100, 0));
        Check.dueThrow(Check.ARGUMENT, x, "level -1", () -> x.addStore(5, -1));
        Check.dueThrow(Check.ARGUMENT, x, "level above room", () -> x.addStore(5, 6));
        Check.due("a full one of 1", 0, x.addStore(1, 1));
        Check.due("a full one of 99", 1, x.addStore(99, 99));
        Check.due("an empty one", 2, x.addStore(99, 0));
        Check.due("a fourth", 3, x.addStore(7, 3));
        Check.due("level", 1, x.level(0));
        Check.due("level", 99, x.level(1));
        Check.due("level", 0, x.level(2));
        Check.due("level", 3, x.level(3));
        Check.due("area", 0, x.area(3));
        Check.dueThrow(Check.STATE, x, "a fifth", () -> x.addStore(1, 0));
        Check.dueThrow(Check.ARGUMENT, x, "a wrong fifth", () -> x.addStore(1, 2));
    }

    private static void addTally() {
        Check.promise(4, "addTally");
        Sandglass x = new Sandglass();
        Check.dueThrow(Check.ARGUMENT, x, "batch 0", () -> x.addTally(0));
        Check.dueThrow(Check.ARGUMENT, x, "batch 21", () -> x.addTally(21));
        Check.due("a first", 0, x.addTally(1));
        Check.due("a second", 1, x.addTally(20));
        Check.due("a third", 2, x.addTally(3));
        Check.due("a fourth", 3, x.addTally(1));
        Check.due("tallied", 0, x.tallied(3));
        Check.dueThrow(Check.STATE, x, "a fifth", () -> x.addTally(1));
        Check.dueThrow(Check.ARGUMENT, x, "a wrong fifth", () -> x.addTally(0));
    }

    private static void addScript() {
        Check.promise(5, "addScript");
        Sandglass x = new Sandglass();
        for (int i = 0; i < 8; i++) {
            Check.due("its number", i, x.addScript());
        }
        Check.dueThrow(Check.STATE, x, "a ninth", x::addScript);
        Check.due("start", 0, x.start(7, 0, 0));
        Check.due("step", 0, x.step());
        Check.due("ended, being without instructions", 5, x.stateOf(0));
        Check.due("done", 0, x.done());
    }

    private static void add() {
        Check.promise(6, "add");
        Sandglass x = new Sandglass();
        Check.dueThrow(Check.INDEX, x, "no script at all", () -> x.add(0, 8, 0, 0));
        x.addScript();
        x.addScript();
        Check.dueThrow(Check.INDEX, x, "script -1", () -> x.add(-1, 8, 0, 0));
        Check.dueThrow(Check.INDEX, x, "script 2", () -> x.add(2, 8, 0, 0));
        Check.dueThrow(Check.INDEX, x, "script 2, wrong code", () -> x.add(2, 99, 0, 0));
        for (int i = 0; i < 16; i++) {
            Check.due("its number", i, x.add(0, 8, 0, 0));
        }
        Check.dueThrow(Check.STATE, x, "a seventeenth", () -> x.add(0, 8, 0, 0));
        Check.dueThrow(Check.ARGUMENT, x, "a wrong seventeenth", () -> x.add(0, 14, 0, 0));
        Check.due("the other script's first", 0, x.add(1, 8, 0, 0));
        x.start(0, 0, 0);
        x.step();
        Check.due("none of those that threw was added", 16, x.done());
    }

    private static void addRanges() {
        Check.promise(6, "the ranges of a and b");
        Sandglass x = new Sandglass();
        x.addScript();
        wrong(x, -1, 0, 0);
        wrong(x, 14, 0, 0);
        wrong(x, 1, 0, 1);
        wrong(x, 2, 0, 1);
        wrong(x, 3, 0, 1);
        wrong(x, 4, 0, 1);
        wrong(x, 13, 0, 1);
        wrong(x, 9, 0, 0);
        x.addResource(0, 2);
        x.addResource(0, 2);
        x.addStore(5, 0);
        x.addStore(5, 0);
        x.addTally(1);
        x.addTally(1);
        x.addScript();
        edges(x, 0, 0, 99, 0, 50);
        edges(x, 1, 0, 1, 1, 9);
        edges(x, 2, 0, 1, 1, 9);
        edges(x, 3, 0, 1, 1, 99);
        edges(x, 4, 0, 1, 1, 99);
        edges(x, 5, 0, 3, Integer.MIN_VALUE, Integer.MAX_VALUE);
        edges(x, 6, 0, 3, Integer.MIN_VALUE, Integer.MAX_VALUE);
        edges(x, 7, 0, 1, 0, 9);
        edges(x, 8, Integer.MIN_VALUE, Integer.MAX_VALUE, Integer.MIN_VALUE, Integer.MAX_VALUE);
        edges(x, 9, 0, 1, Integer.MIN_VALUE, Integer.MAX_VALUE);
        edges(x, 10, 0, 15, 0, 20);
        edges(x, 11, Integer.MIN_VALUE, Integer.MAX_VALUE, Integer.MIN_VALUE, Integer.MAX_VALUE);
        edges(x, 12, 0, 9, Integer.MIN_VALUE, Integer.MAX_VALUE);
        edges(x, 13, 0, 1, 1, 99);
    }

    private static void wrong(Sandglass x, int code, int a, int b) {
        Check.dueThrow(Check.ARGUMENT, x, "add(0, " + code + ", " + a + ", " + b + ")",
                () -> x.add(0, code, a, b));
    }

    /** The least and the most that a and b may be stand; what lies just outside does not. */
    private static void edges(Sandglass x, int code, int leastA, int mostA, int leastB, int mostB) {
        Sandglass y = new Sandglass();
        y.addResource(0, 2);
        y.addResource(0, 2);
        y.addStore(5, 0);
        y.addStore(5, 0);
        y.addTally(1);
        y.addTally(1);
        y.addScript();
        y.addScript();
        Check.due("the least of code " + code, 0, y.add(0, code, leastA, leastB));
        Check.due("the most of code " + code, 1, y.add(0, code, mostA, mostB));
        if (leastA != Integer.MIN_VALUE) {
            wrong(x, code, leastA - 1, leastB);
            wrong(x, code, mostA + 1, leastB);
            wrong(x, code, Integer.MIN_VALUE, leastB);
            wrong(x, code, Integer.MAX_VALUE, leastB);
        }
        if (leastB != Integer.MIN_VALUE) {
            wrong(x, code, leastA, leastB - 1);
            wrong(x, code, leastA, mostB + 1);
            wrong(x, code, leastA, Integer.MIN_VALUE);
            wrong(x, code, leastA, Integer.MAX_VALUE);
        }
    }

    private static void addTooLate() {
        Check.promise(6, "add to a script that a process was started with");
        Sandglass x = new Sandglass();
        int spawned = Check.script(x, Check.mark());
        int spawning = Check.script(x, Check.spawn(spawned, 0));
        int free = x.addScript();
        x.start(spawning, 0, 3);
        Check.dueThrow(Check.STATE, x, "add to one started", () -> x.add(spawning, 8, 0, 0));
        Check.dueThrow(Check.ARGUMENT, x, "a wrong add", () -> x.add(spawning, 0, 100, 0));
        Check.due("add to one to be spawned yet", 1, x.add(spawned, 8, 0, 0));
        x.endOf(0, 9);
        Check.due("add behind a spawn that was only tried", 2, x.add(spawned, 8, 0, 0));
        x.run(3);
        Check.due("processes", 2, x.processes());
        Check.dueThrow(Check.STATE, x, "add to one spawned", () -> x.add(spawned, 8, 0, 0));
        Check.due("both have ended", 5, x.stateOf(1));
        Check.dueThrow(Check.STATE, x, "add behind the end", () -> x.add(spawning, 8, 0, 0));
        Check.due("add to another", 0, x.add(free, 8, 0, 0));
    }

    private static void setHandler() {
        Check.promise(7, "setHandler");
        Sandglass x = new Sandglass();
        Check.dueThrow(Check.INDEX, x, "no script", () -> x.setHandler(0, 0));
        x.addScript();
        x.addScript();
        Check.dueThrow(Check.INDEX, x, "script -1", () -> x.setHandler(-1, 0));
        Check.dueThrow(Check.INDEX, x, "script 2, wrong handler", () -> x.setHandler(2, 16));
        Check.dueThrow(Check.ARGUMENT, x, "handler -2", () -> x.setHandler(0, -2));
        Check.dueThrow(Check.ARGUMENT, x, "handler 16", () -> x.setHandler(0, 16));
        Check.due("the one before", -1, x.setHandler(0, 15));
        Check.due("the one before", 15, x.setHandler(0, 0));
        Check.due("the one before", 0, x.setHandler(0, -1));
        Check.due("the one before", -1, x.setHandler(0, 4));
        Check.due("that of the other script", -1, x.setHandler(1, 3));
        x.start(0, 0, 0);
        Check.due("also behind a start", 4, x.setHandler(0, 7));
    }

    private static void setLuck() {
        Check.promise(8, "setLuck");
        Sandglass x = new Sandglass();
        Check.dueThrow(Check.ARGUMENT, x, "luck -1", () -> x.setLuck(-1));
        Check.dueThrow(Check.ARGUMENT, x, "luck 10000", () -> x.setLuck(10000));
        Check.due("the one before", 0, x.setLuck(9999));
        Check.due("luck", 9999, x.luck());
        Check.due("the one before", 9999, x.setLuck(0));
        Check.due("luck", 0, x.luck());
    }
}
