import java.util.ArrayList;

/** A kernel for simulating by events. */
public final class Sandglass {

    private static final int MOST_RESOURCES = 6;
    private static final int MOST_STORES = 4;
    private static final int SIGNALS = 4;
    private static final int MOST_TALLIES = 4;
    private static final int MOST_SCRIPTS = 8;
    private static final int MOST_INSTRUCTIONS = 16;
    private static final int MOST_PROCESSES = 24;
    private static final int MOST_UNITS = 9;
    private static final int MOST_ROOM = 99;
    private static final int MOST_BATCH = 20;
    private static final int MOST_HANDLER = 15;
    private static final int MOST_RANK = 9;
    private static final int MOST_TICKS = 999;
    private static final int MOST_LUCK = 9999;
    private static final int MOST_EVENTS_AHEAD = 100;
    private static final int INSTRUCTIONS_OF_AN_EVENT = 40;
    private static final int EVENTS_OF_A_RUN = 400;

    private static final int BY_TURNS = 0;
    private static final int TAKING = 2;

    private static final int READY = 0;
    private static final int WAITING = 1;
    private static final int QUEUED = 2;
    private static final int BLOCKED = 3;
    private static final int AWAITING = 4;
    private static final int ENDED = 5;
    private static final int BROKEN = 6;
    private static final int CANCELLED = 7;
    /** The state within one's own event; no call of the face ever meets it. */
    private static final int GOING = 8;

    private static final int WAIT = 0;
    private static final int SEIZE = 1;
    private static final int RELEASE = 2;
    private static final int PUT = 3;
    private static final int GET = 4;
    private static final int SIGNAL = 5;
    private static final int AWAIT = 6;
    private static final int SPAWN = 7;
    private static final int MARK = 8;
    private static final int TALLY = 9;
    private static final int AGAIN = 10;
    private static final int REST = 11;
    private static final int RANK = 12;
    private static final int SKIP = 13;

    private static final int NONE = -1;

    // All that one can be in are rows, numbered through, so that a process needs one number to
    // tell where it is: first the QUEUES of the resources, then those behind them.
    private static final int FIRST_PUT_ROW = MOST_RESOURCES;
    private static final int FIRST_GET_ROW = FIRST_PUT_ROW + MOST_STORES;
    private static final int FIRST_SIGNAL_ROW = FIRST_GET_ROW + MOST_STORES;

    /** More numbers than 512 calls can tally, as each lets at most 400 events happen. */
    private static final int MOST_SUMS = 512 * EVENTS_OF_A_RUN * INSTRUCTIONS_OF_AN_EVENT;
    private static final int SUMS_OF_A_CHUNK = 512;
    private static final int HALF_BITS = 20;
    private static final int LOW_BITS = 2 * HALF_BITS;
    private static final long LOW_SPAN = 1L << LOW_BITS;

    private static final long DIGEST_START = 58032;
    private static final int DIGEST_FACTOR = 31;

    private final ArrayList<Script> scripts;
    private final ArrayList<Tally> tallies;
    private final World world;
    /** A second state, to try in it what would be; made once, so that trying makes nothing. */
    private final World trial;

    public Sandglass() {
        ArrayList<Script> sharedScripts = new ArrayList<>();
        ArrayList<Tally> realTallies = new ArrayList<>();
        scripts = sharedScripts;
        tallies = realTallies;
        world = new World(sharedScripts, realTallies);
        // The trial knows no tallies: what is tallied as one tries must leave no trace.
        trial = new World(sharedScripts, new ArrayList<Tally>());
    }

    // ---- what there is

    public int addResource(int kind, int units)
            throws IllegalArgumentException, IllegalStateException {
        if (!isIn(kind, BY_TURNS, TAKING) || !isIn(units, 1, MOST_UNITS)) {
            throw new IllegalArgumentException("no such kind or number of units");
        }
        int number = world.resources.size();
        if (number >= MOST_RESOURCES) {
            throw new IllegalStateException("there are 6 resources");
        }
        world.resources.add(new Resource(number, kind, units));
        trial.resources.add(new Resource(number, kind, units));
        return number;
    }

    public int addStore(int room, int level)
            throws IllegalArgumentException, IllegalStateException {
        if (!isIn(room, 1, MOST_ROOM) || !isIn(level, 0, room)) {
            throw new IllegalArgumentException("no such room or level");
        }
        int number = world.stores.size();
        if (number >= MOST_STORES) {
            throw new IllegalStateException("there are 4 stores");
        }
        world.stores.add(new Store(number, room, level));
        trial.stores.add(new Store(number, room, level));
        return number;
    }

    public int addTally(int batch) throws IllegalArgumentException, IllegalStateException {
        if (!isIn(batch, 1, MOST_BATCH)) {
            throw new IllegalArgumentException("no such batch");
        }
        if (tallies.size() >= MOST_TALLIES) {
            throw new IllegalStateException("there are 4 tallies");
        }
        tallies.add(new Tally(batch));
        return tallies.size() - 1;
    }

    public int addScript() throws IllegalStateException {
        if (scripts.size() >= MOST_SCRIPTS) {
            throw new IllegalStateException("there are 8 scripts");
        }
        scripts.add(new Script());
        return scripts.size() - 1;
    }

    public int add(int script, int code, int a, int b)
            throws IndexOutOfBoundsException, IllegalArgumentException, IllegalStateException {
        Script told = demandScript(script);
        if (!isInstruction(code, a, b)) {
            throw new IllegalArgumentException("no such instruction");
        }
        if (told.instructions.size() >= MOST_INSTRUCTIONS) {
            throw new IllegalStateException("the script has 16 instructions");
        }
        if (world.hasStarted(told)) {
            throw new IllegalStateException("a process was started with the script");
        }
        int number = told.instructions.size();
        told.instructions.add(new Instruction(number, code, a, b));
        return number;
    }

    public int setHandler(int script, int handler)
            throws IndexOutOfBoundsException, IllegalArgumentException {
        Script told = demandScript(script);
        if (!isIn(handler, NONE, MOST_HANDLER)) {
            throw new IllegalArgumentException("no such handler");
        }
        int before = told.handler;
        told.handler = handler;
        return before;
    }

    public int setLuck(int luck) throws IllegalArgumentException {
        if (!isIn(luck, 0, MOST_LUCK)) {
            throw new IllegalArgumentException("no such luck");
        }
        int before = world.luck;
        world.luck = luck;
        return before;
    }

    // ---- processes and time

    public int start(int script, int rank, int delay)
            throws IndexOutOfBoundsException, IllegalArgumentException, IllegalStateException {
        Script told = demandScript(script);
        if (!isIn(rank, 0, MOST_RANK) || !isIn(delay, 0, MOST_TICKS)) {
            throw new IllegalArgumentException("no such rank or delay");
        }
        if (world.started >= MOST_PROCESSES) {
            throw new IllegalStateException("there are 24 processes");
        }
        world.begin(told, rank, delay);
        return world.started - 1;
    }

    public int step() throws IllegalStateException {
        Proc gone = world.happen();
        if (gone == null) {
            throw new IllegalStateException("there is no event");
        }
        return gone.number;
    }

    public int run(int ticks) throws IllegalArgumentException {
        if (!isIn(ticks, 0, MOST_TICKS)) {
            throw new IllegalArgumentException("no such number of ticks");
        }
        return world.runFor(ticks);
    }

    public int interrupt(int process) throws IndexOutOfBoundsException, IllegalStateException {
        Proc p = demandProcess(process);
        if (!isIn(p.state, WAITING, AWAITING)) {
            throw new IllegalStateException("the process waits for nothing");
        }
        world.interruptOne(p);
        return p.rest;
    }

    public int cancel(int process) throws IndexOutOfBoundsException, IllegalStateException {
        Proc p = demandProcess(process);
        if (p.isOver()) {
            throw new IllegalStateException("the process is over");
        }
        int held = p.heldInAll();
        world.finish(p, CANCELLED);
        return held;
    }

    // ---- asking

    public int time() {
        return world.time;
    }

    public int luck() {
        return world.luck;
    }

    public int events() {
        return world.countEvents();
    }

    public int nextTime() {
        Proc next = world.nextToGo();
        return next == null ? NONE : next.eventTime;
    }

    public int processes() {
        return world.started;
    }

    public int done() {
        return world.done;
    }

    public int stateOf(int process) throws IndexOutOfBoundsException {
        return demandProcess(process).state;
    }

    public int placeOf(int process) throws IndexOutOfBoundsException {
        return demandProcess(process).place;
    }

    public int rankOf(int process) throws IndexOutOfBoundsException {
        return demandProcess(process).rank;
    }

    public int restOf(int process) throws IndexOutOfBoundsException {
        return demandProcess(process).rest;
    }

    public int markOf(int process) throws IndexOutOfBoundsException {
        return demandProcess(process).mark;
    }

    public int eventOf(int process) throws IndexOutOfBoundsException {
        return demandProcess(process).eventTime;
    }

    public int holds(int process, int resource) throws IndexOutOfBoundsException {
        Proc p = demandProcess(process);
        Resource r = demandResource(resource);
        return at(p.held, r.number);
    }

    public int free(int resource) throws IndexOutOfBoundsException {
        return demandResource(resource).unheld;
    }

    public int queued(int resource) throws IndexOutOfBoundsException {
        return world.countIn(demandResource(resource).number);
    }

    public int queuedAt(int resource, int place) throws IndexOutOfBoundsException {
        Proc p = world.inRowAt(demandResource(resource).number, place);
        if (p == null) {
            throw new IndexOutOfBoundsException("no such place in the queue");
        }
        return p.number;
    }

    public int busy(int resource) throws IndexOutOfBoundsException {
        return demandResource(resource).busyTicks;
    }

    public int queueing(int resource) throws IndexOutOfBoundsException {
        return demandResource(resource).queueTicks;
    }

    public int longest(int resource) throws IndexOutOfBoundsException {
        return demandResource(resource).longestQueue;
    }

    public int level(int store) throws IndexOutOfBoundsException {
        return demandStore(store).stock;
    }

    public int blocked(int store, boolean isGet) throws IndexOutOfBoundsException {
        return world.countIn(demandStore(store).row(isGet));
    }

    public int area(int store) throws IndexOutOfBoundsException {
        return demandStore(store).stockTicks;
    }

    public int awaiting(int signal) throws IndexOutOfBoundsException {
        if (!isSignal(signal)) {
            throw new IndexOutOfBoundsException("no such signal");
        }
        return world.countIn(FIRST_SIGNAL_ROW + signal);
    }

    // ---- what was tallied

    public int tallied(int tally) throws IndexOutOfBoundsException {
        return demandTally(tally).count;
    }

    public int ofTally(int tally, int what)
            throws IndexOutOfBoundsException, IllegalArgumentException {
        Tally asked = demandTally(tally);
        switch (what) {
            case 0:
                return asked.sum;
            case 1:
                return asked.least;
            case 2:
                return asked.greatest;
            case 3:
                return asked.latest;
            default:
                throw new IllegalArgumentException("nothing like that is told of a tally");
        }
    }

    public int batches(int tally) throws IndexOutOfBoundsException {
        return demandTally(tally).full;
    }

    public int sumOf(int tally, int batch) throws IndexOutOfBoundsException {
        Tally asked = demandTally(tally);
        if (batch < 0 || batch >= asked.full) {
            throw new IndexOutOfBoundsException("no such full batch");
        }
        return asked.sumAt(batch);
    }

    public double spread(int tally) throws IndexOutOfBoundsException {
        return demandTally(tally).variance();
    }

    // ---- what would be

    public int endOf(int process, int most)
            throws IndexOutOfBoundsException, IllegalArgumentException {
        Proc p = demandProcess(process);
        if (!isIn(most, 1, MOST_EVENTS_AHEAD)) {
            throw new IllegalArgumentException("no such number of events");
        }
        if (p.isOver()) {
            return world.time;
        }
        trial.copyFrom(world);
        return trial.runToEndOf(process, most);
    }

    public int wouldBeBusy(int resource, int ticks)
            throws IndexOutOfBoundsException, IllegalArgumentException {
        demandResource(resource);
        if (!isIn(ticks, 0, MOST_TICKS)) {
            throw new IllegalArgumentException("no such number of ticks");
        }
        trial.copyFrom(world);
        trial.runFor(ticks);
        Resource tried = trial.resource(resource);
        return tried == null ? 0 : tried.busyTicks;
    }

    public long digest() {
        long d = DIGEST_START;
        d = mix(d, time());
        d = mix(d, luck());
        d = mix(d, events());
        d = mix(d, nextTime());
        d = mix(d, processes());
        d = mix(d, done());
        d = mixProcesses(d);
        d = mixResources(d);
        d = mixStores(d);
        for (int signal = 0; signal < SIGNALS; signal++) {
            d = mix(d, awaiting(signal));
        }
        return mixTallies(d);
    }

    private static long mix(long d, int x) {
        return d * DIGEST_FACTOR + x;
    }

    private long mixProcesses(long d) {
        for (int process = 0; process < world.started; process++) {
            d = mix(d, stateOf(process));
            d = mix(d, placeOf(process));
            d = mix(d, rankOf(process));
            d = mix(d, restOf(process));
            d = mix(d, markOf(process));
            d = mix(d, eventOf(process));
            for (int resource = 0; resource < world.resources.size(); resource++) {
                d = mix(d, holds(process, resource));
            }
        }
        return d;
    }

    private long mixResources(long d) {
        for (int resource = 0; resource < world.resources.size(); resource++) {
            int inQueue = queued(resource);
            d = mix(d, free(resource));
            d = mix(d, inQueue);
            for (int place = 0; place < inQueue; place++) {
                d = mix(d, queuedAt(resource, place));
            }
            d = mix(d, busy(resource));
            d = mix(d, queueing(resource));
            d = mix(d, longest(resource));
        }
        return d;
    }

    private long mixStores(long d) {
        for (int store = 0; store < world.stores.size(); store++) {
            d = mix(d, level(store));
            d = mix(d, blocked(store, false));
            d = mix(d, blocked(store, true));
            d = mix(d, area(store));
        }
        return d;
    }

    private long mixTallies(long d) {
        for (int tally = 0; tally < tallies.size(); tally++) {
            d = mix(d, tallied(tally));
            for (int what = 0; what <= 3; what++) {
                d = mix(d, ofTally(tally, what));
            }
            int full = batches(tally);
            d = mix(d, full);
            for (int batch = 0; batch < full; batch++) {
                d = mix(d, sumOf(tally, batch));
            }
        }
        return d;
    }

    // ---- tests of what is handed in

    private static boolean isIn(int x, int least, int most) {
        return x >= least && x <= most;
    }

    private static boolean isSignal(int signal) {
        return isIn(signal, 0, SIGNALS - 1);
    }

    private boolean isInstruction(int code, int a, int b) {
        switch (code) {
            case WAIT:
                return isIn(a, 0, 99) && isIn(b, 0, 50);
            case SEIZE:
            case RELEASE:
                return world.resource(a) != null && isIn(b, 1, MOST_UNITS);
            case PUT:
            case GET:
            case SKIP:
                return world.store(a) != null && isIn(b, 1, MOST_ROOM);
            case SIGNAL:
            case AWAIT:
                return isSignal(a);
            case SPAWN:
                return world.script(a) != null && isIn(b, 0, MOST_RANK);
            case MARK:
            case REST:
                return true;
            case TALLY:
                return world.tally(a) != null;
            case AGAIN:
                return isIn(a, 0, MOST_INSTRUCTIONS - 1) && isIn(b, 0, 20);
            case RANK:
                return isIn(a, 0, MOST_RANK);
            default:
                return false;
        }
    }

    private Resource demandResource(int resource) throws IndexOutOfBoundsException {
        Resource r = world.resource(resource);
        if (r == null) {
            throw new IndexOutOfBoundsException("no such resource");
        }
        return r;
    }

    private Store demandStore(int store) throws IndexOutOfBoundsException {
        Store s = world.store(store);
        if (s == null) {
            throw new IndexOutOfBoundsException("no such store");
        }
        return s;
    }

    private Tally demandTally(int tally) throws IndexOutOfBoundsException {
        Tally t = world.tally(tally);
        if (t == null) {
            throw new IndexOutOfBoundsException("no such tally");
        }
        return t;
    }

    private Script demandScript(int script) throws IndexOutOfBoundsException {
        Script s = world.script(script);
        if (s == null) {
            throw new IndexOutOfBoundsException("no such script");
        }
        return s;
    }

    private Proc demandProcess(int process) throws IndexOutOfBoundsException {
        Proc p = world.process(process);
        if (p == null) {
            throw new IndexOutOfBoundsException("no such process");
        }
        return p;
    }

    // ---- rows of numbers, whose indices are looked at here, in one place

    private static int at(int[] row, int index) {
        return index >= 0 && index < row.length ? row[index] : 0;
    }

    private static void set(int[] row, int index, int x) {
        if (index >= 0 && index < row.length) {
            row[index] = x;
        }
    }

    private static void copyRow(int[] from, int[] to) {
        for (int i = 0; i < from.length && i < to.length; i++) {
            to[i] = from[i];
        }
    }

    /** All that changes as time goes: the real state of the kernel, or a copy to try things in. */
    private static final class World {

        final ArrayList<Script> scripts;
        final ArrayList<Tally> tallies;
        final ArrayList<Resource> resources = new ArrayList<>();
        final ArrayList<Store> stores = new ArrayList<>();
        final Proc[] processes = new Proc[MOST_PROCESSES];
        int started;
        int time;
        int luck;
        int done;
        /** Counts on with all whose order matters: events made, rows entered, units got. */
        int order;

        World(ArrayList<Script> scripts, ArrayList<Tally> tallies) {
            this.scripts = scripts;
            this.tallies = tallies;
            for (int i = 0; i < processes.length; i++) {
                processes[i] = new Proc(i);
            }
        }

        void copyFrom(World other) {
            started = other.started;
            time = other.time;
            luck = other.luck;
            done = other.done;
            order = other.order;
            for (int i = 0; i < processes.length && i < other.processes.length; i++) {
                processes[i].copyFrom(other.processes[i]);
            }
            for (int i = 0; i < resources.size() && i < other.resources.size(); i++) {
                resources.get(i).copyFrom(other.resources.get(i));
            }
            for (int i = 0; i < stores.size() && i < other.stores.size(); i++) {
                stores.get(i).copyFrom(other.stores.get(i));
            }
        }

        // ---- what there is, by its number; null if there is no such thing

        Resource resource(int number) {
            return number >= 0 && number < resources.size() ? resources.get(number) : null;
        }

        Store store(int number) {
            return number >= 0 && number < stores.size() ? stores.get(number) : null;
        }

        Tally tally(int number) {
            return number >= 0 && number < tallies.size() ? tallies.get(number) : null;
        }

        Script script(int number) {
            return number >= 0 && number < scripts.size() ? scripts.get(number) : null;
        }

        Proc process(int number) {
            return number >= 0 && number < started && number < processes.length
                    ? processes[number] : null;
        }

        // ---- processes

        boolean hasStarted(Script script) {
            for (Proc p : processes) {
                if (p.script == script) {
                    return true;
                }
            }
            return false;
        }

        void begin(Script script, int rank, int delay) {
            if (started < 0 || started >= processes.length) {
                return;
            }
            Proc p = processes[started];
            started++;
            p.script = script;
            p.rank = rank;
            p.mark = time;
            schedule(p, READY, delay);
        }

        void schedule(Proc p, int state, int ticks) {
            order++;
            p.state = state;
            p.eventTime = time + ticks;
            p.eventOrder = order;
        }

        void interruptOne(Proc p) {
            if (p.state == WAITING) {
                p.rest = p.eventTime - time;
            }
            p.eventTime = NONE;
            leave(p);
            if (p.script != null && p.script.handler != NONE) {
                p.place = p.script.handler;
            }
            schedule(p, READY, 0);
        }

        /** Ends a process in one of the states behind which it never goes on. */
        void finish(Proc p, int state) {
            p.state = state;
            p.eventTime = NONE;
            leave(p);
            for (int i = 0; i < resources.size(); i++) {
                release(p, resources.get(i), MOST_UNITS);
            }
        }

        // ---- events

        int countEvents() {
            int events = 0;
            for (Proc p : processes) {
                if (p.eventTime != NONE) {
                    events++;
                }
            }
            return events;
        }

        /** The process whose event is the next one; null without an event. */
        Proc nextToGo() {
            Proc next = null;
            for (Proc p : processes) {
                if (p.eventTime != NONE && (next == null || p.goesBefore(next))) {
                    next = p;
                }
            }
            return next;
        }

        boolean hasEventBy(int end) {
            Proc next = nextToGo();
            return next != null && next.eventTime <= end;
        }

        void goTo(int then) {
            int ticks = then - time;
            for (int i = 0; i < resources.size(); i++) {
                Resource r = resources.get(i);
                r.busyTicks += (r.units - r.unheld) * ticks;
                r.queueTicks += countIn(r.number) * ticks;
            }
            for (int i = 0; i < stores.size(); i++) {
                Store s = stores.get(i);
                s.stockTicks += s.stock * ticks;
            }
            time = then;
        }

        int runFor(int ticks) {
            int end = time + ticks;
            int happened = 0;
            while (happened < EVENTS_OF_A_RUN && hasEventBy(end)) {
                happen();
                happened++;
            }
            if (!hasEventBy(end)) {
                goTo(end);
            }
            return happened;
        }

        /** The time at which that process is over, within so many events; NONE if it is not. */
        int runToEndOf(int process, int most) {
            Proc p = process(process);
            for (int i = 0; p != null && i < most; i++) {
                happen();
                if (p.isOver()) {
                    return time;
                }
            }
            return NONE;
        }

        /** Lets the next event happen; answers its process, null without an event. */
        Proc happen() {
            Proc p = nextToGo();
            if (p == null) {
                return null;
            }
            goTo(p.eventTime);
            p.eventTime = NONE;
            p.state = GOING;
            for (int i = 0; p.state == GOING && i < INSTRUCTIONS_OF_AN_EVENT; i++) {
                Instruction next = p.nextInstruction();
                if (next == null) {
                    p.state = ENDED;
                } else {
                    done++;
                    p.place++;
                    obey(p, next);
                }
            }
            if (p.state == GOING) {
                p.state = BROKEN;
            }
            if (p.isOver()) {
                finish(p, p.state);
            }
            return p;
        }

        // ---- instructions

        private void obey(Proc p, Instruction now) {
            switch (now.code) {
                case WAIT:
                    schedule(p, WAITING, now.a + (now.b == 0 ? 0 : drawBelow(now.b)));
                    break;
                case SEIZE:
                    seize(p, resource(now.a), now.b);
                    break;
                case RELEASE:
                    release(p, resource(now.a), now.b);
                    break;
                case PUT:
                    exchange(p, store(now.a), now.b, false);
                    break;
                case GET:
                    exchange(p, store(now.a), now.b, true);
                    break;
                case SIGNAL:
                    wakeAll(FIRST_SIGNAL_ROW + now.a);
                    break;
                case AWAIT:
                    enter(p, FIRST_SIGNAL_ROW + now.a, AWAITING);
                    break;
                case SPAWN:
                    begin(script(now.a), now.b, 0);
                    break;
                case MARK:
                    p.mark = time;
                    break;
                case TALLY:
                    tell(tally(now.a), time - p.mark);
                    break;
                case AGAIN:
                    goAgain(p, now);
                    break;
                case REST:
                    schedule(p, WAITING, p.rest);
                    p.rest = 0;
                    break;
                case RANK:
                    p.rank = now.a;
                    break;
                default:
                    skip(p, store(now.a), now.b);
                    break;
            }
        }

        private int drawBelow(int bound) {
            luck = (luck * 4621 + 2777) % 10000;
            return bound > 0 ? luck % bound : 0;
        }

        private void wakeAll(int row) {
            for (int i = 0; i < MOST_PROCESSES; i++) {
                Proc first = firstIn(row);
                if (first == null) {
                    return;
                }
                first.row = NONE;
                schedule(first, READY, 0);
            }
        }

        private void tell(Tally tally, int x) {
            if (tally != null) {
                tally.take(x);
            }
        }

        private void goAgain(Proc p, Instruction now) {
            int counted = at(p.counters, now.number);
            if (counted < now.b) {
                set(p.counters, now.number, counted + 1);
                p.place = now.a;
            } else {
                set(p.counters, now.number, 0);
            }
        }

        private void skip(Proc p, Store s, int least) {
            if (s != null && s.stock < least) {
                p.place++;
            }
        }

        // ---- rows

        private void enter(Proc p, int row, int state) {
            order++;
            p.row = row;
            p.urgency = 0;
            p.cameAs = order;
            p.state = state;
        }

        /** Takes a process that got nothing out of what it is in, and goes on with that. */
        private void leave(Proc p) {
            int row = p.row;
            p.row = NONE;
            serve(resource(row));
            goOnWith(row < FIRST_GET_ROW ? store(row - FIRST_PUT_ROW) : store(row - FIRST_GET_ROW));
        }

        int countIn(int row) {
            int count = 0;
            for (Proc p : processes) {
                if (p.row == row) {
                    count++;
                }
            }
            return count;
        }

        private Proc firstIn(int row) {
            Proc first = null;
            for (Proc p : processes) {
                if (p.row == row && (first == null || p.standsBefore(first))) {
                    first = p;
                }
            }
            return first;
        }

        /** The process with so many others of the row before it; null if there is none. */
        Proc inRowAt(int row, int place) {
            for (Proc p : processes) {
                if (p.row == row && countBefore(p) == place) {
                    return p;
                }
            }
            return null;
        }

        private int countBefore(Proc p) {
            int count = 0;
            for (Proc other : processes) {
                if (other.row == p.row && other.standsBefore(p)) {
                    count++;
                }
            }
            return count;
        }

        // ---- resources

        private void seize(Proc p, Resource r, int units) {
            if (r == null) {
                return;
            }
            if (units > r.units) {
                p.state = BROKEN;
                return;
            }
            queueUp(p, r, units, false);
            boolean isFirst = firstIn(r.number) == p;
            boolean takes = isFirst && r.kind == TAKING && r.unheld < units
                    && r.unheld + unitsOfVictims(p, r) >= units;
            for (int i = 0; takes && r.unheld < units && i < MOST_PROCESSES; i++) {
                throwOut(nextVictim(p, r), r);
            }
            // A QUEUE grows nowhere else, and here it is longest just now: those thrown out are
            // in it already, and the one that threw them out still is.
            r.longestQueue = Math.max(r.longestQueue, countIn(r.number));
            if (!isFirst || r.unheld < units) {
                return;
            }
            giveUnits(p, r);
            p.state = GOING;
            if (takes) {
                serve(r);
            }
        }

        private void queueUp(Proc p, Resource r, int units, boolean isThrownOut) {
            enter(p, r.number, QUEUED);
            p.urgency = r.kind == BY_TURNS ? 0 : p.rank;
            p.wants = units;
            p.isThrownOut = isThrownOut;
        }

        private void giveUnits(Proc p, Resource r) {
            order++;
            p.row = NONE;
            r.unheld -= p.wants;
            set(p.held, r.number, at(p.held, r.number) + p.wants);
            set(p.gotAs, r.number, order);
        }

        /** How many units p can take from the other one: 0 if that is no VICTIM. */
        private int unitsToTake(Proc p, Proc other, Resource r) {
            boolean yields = other.state == WAITING && other.rank > p.rank;
            return yields ? at(other.held, r.number) : 0;
        }

        private int unitsOfVictims(Proc p, Resource r) {
            int units = 0;
            for (Proc other : processes) {
                units += unitsToTake(p, other, r);
            }
            return units;
        }

        private Proc nextVictim(Proc p, Resource r) {
            Proc next = null;
            for (Proc other : processes) {
                if (unitsToTake(p, other, r) > 0
                        && (next == null || other.yieldsBefore(next, r.number))) {
                    next = other;
                }
            }
            return next;
        }

        private void throwOut(Proc victim, Resource r) {
            if (victim == null) {
                return;
            }
            int lost = at(victim.held, r.number);
            set(victim.held, r.number, 0);
            r.unheld += lost;
            victim.rest = victim.eventTime - time;
            victim.eventTime = NONE;
            queueUp(victim, r, lost, true);
        }

        private void release(Proc p, Resource r, int units) {
            if (r == null) {
                return;
            }
            int held = at(p.held, r.number);
            int released = Math.min(units, held);
            set(p.held, r.number, held - released);
            r.unheld += released;
            serve(r);
        }

        private void serve(Resource r) {
            for (int i = 0; r != null && i < MOST_PROCESSES; i++) {
                Proc first = firstIn(r.number);
                if (first == null || first.wants > r.unheld) {
                    return;
                }
                giveUnits(first, r);
                if (first.isThrownOut) {
                    schedule(first, WAITING, first.rest);
                    first.rest = 0;
                } else {
                    schedule(first, READY, 0);
                }
            }
        }

        // ---- stores

        private void exchange(Proc p, Store s, int amount, boolean isGet) {
            if (s == null) {
                return;
            }
            if (amount > s.room) {
                p.state = BROKEN;
                return;
            }
            int change = isGet ? -amount : amount;
            int row = s.row(isGet);
            if (firstIn(row) == null && s.allows(change)) {
                s.stock += change;
                goOnWith(s);
            } else {
                enter(p, row, BLOCKED);
                p.wants = change;
            }
        }

        private void goOnWith(Store s) {
            for (int i = 0; s != null && i < MOST_PROCESSES; i++) {
                Proc first = firstIn(s.row(true));
                if (first == null || !s.allows(first.wants)) {
                    first = firstIn(s.row(false));
                }
                if (first == null || !s.allows(first.wants)) {
                    return;
                }
                first.row = NONE;
                s.stock += first.wants;
                schedule(first, READY, 0);
            }
        }
    }

    private static final class Proc {

        final int number;
        /** Null as long as the process is not started. */
        Script script;
        int rank;
        int place;
        int mark;
        int rest;
        int state;
        int eventTime = NONE;
        int eventOrder;
        int row = NONE;
        /** What its row is ordered by, ahead of the order in which one came. */
        int urgency;
        int cameAs;
        /** The units that it asks for, or by how much it would change the LEVEL of a store. */
        int wants;
        boolean isThrownOut;
        final int[] counters = new int[MOST_INSTRUCTIONS];
        final int[] held = new int[MOST_RESOURCES];
        final int[] gotAs = new int[MOST_RESOURCES];

        Proc(int number) {
            this.number = number;
        }

        void copyFrom(Proc other) {
            script = other.script;
            rank = other.rank;
            place = other.place;
            mark = other.mark;
            rest = other.rest;
            state = other.state;
            eventTime = other.eventTime;
            eventOrder = other.eventOrder;
            row = other.row;
            urgency = other.urgency;
            cameAs = other.cameAs;
            wants = other.wants;
            isThrownOut = other.isThrownOut;
            copyRow(other.counters, counters);
            copyRow(other.held, held);
            copyRow(other.gotAs, gotAs);
        }

        boolean isOver() {
            return state == ENDED || state == BROKEN || state == CANCELLED;
        }

        Instruction nextInstruction() {
            return script == null ? null : script.instructionAt(place);
        }

        boolean goesBefore(Proc other) {
            return eventTime < other.eventTime
                    || eventTime == other.eventTime && eventOrder < other.eventOrder;
        }

        boolean standsBefore(Proc other) {
            return urgency < other.urgency
                    || urgency == other.urgency && cameAs < other.cameAs;
        }

        boolean yieldsBefore(Proc other, int resource) {
            return rank > other.rank
                    || rank == other.rank && at(gotAs, resource) > at(other.gotAs, resource);
        }

        int heldInAll() {
            int sum = 0;
            for (int units : held) {
                sum += units;
            }
            return sum;
        }
    }

    private static final class Resource {

        final int number;
        final int kind;
        final int units;
        int unheld;
        int busyTicks;
        int queueTicks;
        int longestQueue;

        Resource(int number, int kind, int units) {
            this.number = number;
            this.kind = kind;
            this.units = units;
            unheld = units;
        }

        void copyFrom(Resource other) {
            unheld = other.unheld;
            busyTicks = other.busyTicks;
            queueTicks = other.queueTicks;
            longestQueue = other.longestQueue;
        }
    }

    private static final class Store {

        final int number;
        final int room;
        int stock;
        int stockTicks;

        Store(int number, int room, int stock) {
            this.number = number;
            this.room = room;
            this.stock = stock;
        }

        void copyFrom(Store other) {
            stock = other.stock;
            stockTicks = other.stockTicks;
        }

        int row(boolean isGet) {
            return number + (isGet ? FIRST_GET_ROW : FIRST_PUT_ROW);
        }

        boolean allows(int change) {
            return isIn(stock + change, 0, room);
        }
    }

    private static final class Script {

        final ArrayList<Instruction> instructions = new ArrayList<>();
        int handler = NONE;

        /** Null if there is none at that place. */
        Instruction instructionAt(int place) {
            return place >= 0 && place < instructions.size() ? instructions.get(place) : null;
        }
    }

    private static final class Instruction {

        final int number;
        final int code;
        final int a;
        final int b;

        Instruction(int number, int code, int a, int b) {
            this.number = number;
            this.code = code;
            this.a = a;
            this.b = b;
        }
    }

    private static final class Tally {

        final int batch;
        int count;
        int sum;
        int least;
        int greatest;
        int latest;
        int open;
        int openSum;
        int full;
        final ArrayList<Chunk> chunks = new ArrayList<>();

        Tally(int batch) {
            this.batch = batch;
        }

        void take(int x) {
            least = count == 0 ? x : Math.min(least, x);
            greatest = count == 0 ? x : Math.max(greatest, x);
            latest = x;
            sum += x;
            count++;
            open++;
            openSum += x;
            if (open >= batch) {
                keep(openSum);
                open = 0;
                openSum = 0;
            }
        }

        private void keep(int batchSum) {
            if (full >= MOST_SUMS) {
                return;
            }
            if (chunks.isEmpty() || full >= chunks.size() * SUMS_OF_A_CHUNK) {
                chunks.add(new Chunk());
            }
            set(chunks.get(chunks.size() - 1).sums, full % SUMS_OF_A_CHUNK, batchSum);
            full++;
        }

        int sumAt(int number) {
            int chunk = number / SUMS_OF_A_CHUNK;
            return chunk >= 0 && chunk < chunks.size()
                    ? at(chunks.get(chunk).sums, number % SUMS_OF_A_CHUNK) : 0;
        }

        /** The variance of the means of the full batches; 0 with less than 2. */
        double variance() {
            long k = full;
            if (k < 2) {
                return 0.0;
            }
            long all = 0;
            long squaresHigh = 0;
            long squaresLow = 0;
            for (int i = 0; i < full; i++) {
                long s = sumAt(i);
                all += s;
                squaresLow += s * s;
                squaresHigh += squaresLow >> LOW_BITS;
                squaresLow = lowPart(squaresLow, LOW_BITS);
            }
            long bar = k * (k - 1) * batch * batch;
            return bar > 0 ? overBar(k, all, squaresHigh, squaresLow) / (double) bar : 0.0;
        }

        /**
         * k * Q - S * S as a double. A long is too short for it behind some runs of 512 calls, so
         * it is reckoned in two parts, the low one with 40 bits; only their sum at the end is
         * rounded, and that once, since each part by itself fits into a double.
         */
        private static double overBar(long k, long all, long squaresHigh, long squaresLow) {
            long allHigh = all >> HALF_BITS;
            long allLow = lowPart(all, HALF_BITS);
            long cross = 2 * allHigh * allLow;
            long high = k * squaresHigh - allHigh * allHigh - (cross >> HALF_BITS);
            long low = k * squaresLow - allLow * allLow
                    - (lowPart(cross, HALF_BITS) << HALF_BITS);
            high += low >> LOW_BITS;
            low = lowPart(low, LOW_BITS);
            return (double) high * (double) LOW_SPAN + (double) low;
        }

        private static long lowPart(long x, int bits) {
            return x & ((1L << bits) - 1);
        }
    }

    /** A part of a row of sums that only grows: so it grows without being copied. */
    private static final class Chunk {

        final int[] sums = new int[SUMS_OF_A_CHUNK];
    }
}
