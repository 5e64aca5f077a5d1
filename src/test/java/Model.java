import java.math.BigInteger;
import java.util.ArrayList;
import java.util.Arrays;
import java.util.Comparator;
import java.util.LinkedList;
import java.util.List;

/**
 * The document a second time, written down as plainly as can be and in another way than the
 * program: with rows that are lists, an agenda, and what would be found out by doing all calls
 * anew. Its calls are checked by the test ahead of being made; it throws nothing itself.
 */
final class Model {

    private static final class P {
        int number;
        int script;
        int rank;
        int place;
        int mark;
        int rest;
        String state = "ready";
        int[] counters = new int[16];
        int[] held = new int[6];
        int asks;
        boolean thrown;
        LinkedList<P> in;
    }

    private static final class Event {
        int time;
        P p;
    }

    private static final class R {
        int kind;
        int units;
        int free;
        int busy;
        int queueing;
        int longest;
        LinkedList<P> queue = new LinkedList<>();
        /** Those that hold units, in the order in which they got units last. */
        LinkedList<P> holders = new LinkedList<>();
    }

    private static final class S {
        int room;
        int level;
        int area;
        LinkedList<P> puts = new LinkedList<>();
        LinkedList<P> gets = new LinkedList<>();
    }

    private static final class T {
        int batch;
        List<Integer> numbers = new ArrayList<>();
    }

    private static final List<String> STATES = Arrays.asList("ready", "waiting", "queued",
            "blocked", "awaiting", "ended", "broken", "cancelled");

    private final List<R> resources = new ArrayList<>();
    private final List<S> stores = new ArrayList<>();
    private final List<T> tallies = new ArrayList<>();
    private final List<List<int[]>> scripts = new ArrayList<>();
    private final List<Integer> handlers = new ArrayList<>();
    private final List<P> all = new ArrayList<>();
    private final List<LinkedList<P>> signals = new ArrayList<>();
    private final LinkedList<Event> agenda = new LinkedList<>();
    private final List<int[]> calls = new ArrayList<>();
    private int now;
    private int luck;
    private int done;

    Model() {
        for (int i = 0; i < 4; i++) {
            signals.add(new LinkedList<>());
        }
    }

    // ---- calls that change something are kept, so that they can be done anew

    private Model anew() {
        Model m = new Model();
        for (int[] c : calls) {
            m.again(c);
        }
        return m;
    }

    private void again(int[] c) {
        switch (c[0]) {
            case 0: addResource(c[1], c[2]); break;
            case 1: addStore(c[1], c[2]); break;
            case 2: addTally(c[1]); break;
            case 3: addScript(); break;
            case 4: add(c[1], c[2], c[3], c[4]); break;
            case 5: setHandler(c[1], c[2]); break;
            case 6: setLuck(c[1]); break;
            case 7: start(c[1], c[2], c[3]); break;
            case 8: step(); break;
            case 9: run(c[1]); break;
            case 10: interrupt(c[1]); break;
            default: cancel(c[1]); break;
        }
    }

    private void kept(int... call) {
        calls.add(call);
    }

    int addResource(int kind, int units) {
        kept(0, kind, units);
        R r = new R();
        r.kind = kind;
        r.units = units;
        r.free = units;
        resources.add(r);
        return resources.size() - 1;
    }

    int addStore(int room, int level) {
        kept(1, room, level);
        S s = new S();
        s.room = room;
        s.level = level;
        stores.add(s);
        return stores.size() - 1;
    }

    int addTally(int batch) {
        kept(2, batch);
        T t = new T();
        t.batch = batch;
        tallies.add(t);
        return tallies.size() - 1;
    }

    int addScript() {
        kept(3);
        scripts.add(new ArrayList<>());
        handlers.add(-1);
        return scripts.size() - 1;
    }

    int add(int script, int code, int a, int b) {
        kept(4, script, code, a, b);
        scripts.get(script).add(new int[] {code, a, b});
        return scripts.get(script).size() - 1;
    }

    int setHandler(int script, int handler) {
        kept(5, script, handler);
        return handlers.set(script, handler);
    }

    int setLuck(int to) {
        kept(6, to);
        int before = luck;
        luck = to;
        return before;
    }

    int start(int script, int rank, int delay) {
        kept(7, script, rank, delay);
        newProcess(script, rank, delay);
        return all.size() - 1;
    }

    int step() {
        kept(8);
        return oneEvent();
    }

    int run(int ticks) {
        kept(9, ticks);
        int until = now + ticks;
        int count = 0;
        while (count < 400 && !agenda.isEmpty() && agenda.getFirst().time <= until) {
            oneEvent();
            count++;
        }
        if (agenda.isEmpty() || agenda.getFirst().time > until) {
            pass(until);
        }
        return count;
    }

    int interrupt(int process) {
        kept(10, process);
        P p = all.get(process);
        if (p.state.equals("waiting")) {
            p.rest = forget(p);
        }
        outOfRow(p);
        if (handlers.get(p.script) >= 0) {
            p.place = handlers.get(p.script);
        }
        p.state = "ready";
        plan(p, 0);
        return p.rest;
    }

    int cancel(int process) {
        kept(11, process);
        P p = all.get(process);
        int held = 0;
        for (int h : p.held) {
            held += h;
        }
        over(p, "cancelled");
        return held;
    }

    // ---- how it goes

    private void newProcess(int script, int rank, int delay) {
        P p = new P();
        p.number = all.size();
        p.script = script;
        p.rank = rank;
        p.mark = now;
        all.add(p);
        plan(p, delay);
    }

    /** The agenda is kept in the order of times; a new event comes behind those of its time. */
    private void plan(P p, int ticks) {
        Event e = new Event();
        e.time = now + ticks;
        e.p = p;
        int at = agenda.size();
        while (at > 0 && agenda.get(at - 1).time > e.time) {
            at--;
        }
        agenda.add(at, e);
    }

    /** Strikes the event of p; answers the ticks that were left. */
    private int forget(P p) {
        for (int i = 0; i < agenda.size(); i++) {
            if (agenda.get(i).p == p) {
                return agenda.remove(i).time - now;
            }
        }
        return 0;
    }

    private void pass(int until) {
        for (; now < until; now++) {
            for (R r : resources) {
                for (P p : all) {
                    r.busy += p.held[resources.indexOf(r)];
                }
                r.queueing += r.queue.size();
            }
            for (S s : stores) {
                s.area += s.level;
            }
        }
    }

    private int oneEvent() {
        Event e = agenda.removeFirst();
        pass(e.time);
        P p = e.p;
        List<int[]> script = scripts.get(p.script);
        int gone = 0;
        boolean goesOn = true;
        while (goesOn) {
            if (gone == 40) {
                over(p, "broken");
                goesOn = false;
            } else if (p.place >= script.size()) {
                over(p, "ended");
                goesOn = false;
            } else {
                int number = p.place;
                p.place = number + 1;
                gone++;
                done++;
                goesOn = instruction(p, number, script.get(number));
            }
        }
        return p.number;
    }

    /** Answers whether the process goes on. */
    private boolean instruction(P p, int number, int[] i) {
        int a = i[1];
        int b = i[2];
        if (i[0] == 0) {
            int ticks = a;
            if (b != 0) {
                luck = (luck * 4621 + 2777) % 10000;
                ticks += luck % b;
            }
            p.state = "waiting";
            plan(p, ticks);
            return false;
        } else if (i[0] == 1) {
            return seize(p, resources.get(a), b);
        } else if (i[0] == 2) {
            free(p, resources.get(a), Math.min(b, p.held[a]));
        } else if (i[0] == 3 || i[0] == 4) {
            return store(p, stores.get(a), b, i[0] == 4);
        } else if (i[0] == 5) {
            while (!signals.get(a).isEmpty()) {
                P woken = signals.get(a).removeFirst();
                woken.in = null;
                woken.state = "ready";
                plan(woken, 0);
            }
        } else if (i[0] == 6) {
            signals.get(a).addLast(p);
            p.in = signals.get(a);
            p.state = "awaiting";
            return false;
        } else if (i[0] == 7) {
            if (all.size() < 24) {
                newProcess(a, b, 0);
            }
        } else if (i[0] == 8) {
            p.mark = now;
        } else if (i[0] == 9) {
            tallies.get(a).numbers.add(now - p.mark);
        } else if (i[0] == 10) {
            if (p.counters[number] < b) {
                p.counters[number]++;
                p.place = a;
            } else {
                p.counters[number] = 0;
            }
        } else if (i[0] == 11) {
            p.state = "waiting";
            plan(p, p.rest);
            p.rest = 0;
            return false;
        } else if (i[0] == 12) {
            p.rank = a;
        } else if (stores.get(a).level < b) {
            p.place++;
        }
        return true;
    }

    private void over(P p, String state) {
        p.state = state;
        forget(p);
        outOfRow(p);
        for (int r = 0; r < resources.size(); r++) {
            free(p, resources.get(r), p.held[r]);
        }
    }

    private void outOfRow(P p) {
        LinkedList<P> left = p.in;
        if (left == null) {
            return;
        }
        left.remove(p);
        p.in = null;
        for (R r : resources) {
            if (r.queue == left) {
                serve(r);
            }
        }
        for (S s : stores) {
            if (s.puts == left || s.gets == left) {
                goOn(s);
            }
        }
    }

    private boolean seize(P p, R r, int units) {
        if (units > r.units) {
            over(p, "broken");
            return false;
        }
        comeTo(p, r, units, false);
        if (r.queue.getFirst() == p) {
            if (r.free >= units) {
                have(p, r);
                return true;
            }
            if (r.kind == 2 && takeByForce(p, r)) {
                have(p, r);
                serve(r);
                return true;
            }
        }
        p.state = "queued";
        return false;
    }

    private boolean takeByForce(P p, R r) {
        int number = resources.indexOf(r);
        List<P> victims = new ArrayList<>();
        int there = r.free;
        for (P h : r.holders) {
            if (h != p && h.state.equals("waiting") && h.rank > p.rank) {
                victims.add(0, h);
                there += h.held[number];
            }
        }
        if (there < p.asks) {
            return false;
        }
        victims.sort(Comparator.comparingInt((P h) -> -h.rank));
        while (r.free < p.asks) {
            P victim = victims.remove(0);
            int lost = victim.held[number];
            victim.held[number] = 0;
            r.holders.remove(victim);
            r.free += lost;
            victim.rest = forget(victim);
            victim.state = "queued";
            comeTo(victim, r, lost, true);
        }
        return true;
    }

    private void comeTo(P p, R r, int units, boolean thrown) {
        p.asks = units;
        p.thrown = thrown;
        p.in = r.queue;
        int at = r.queue.size();
        while (r.kind != 0 && at > 0 && r.queue.get(at - 1).rank > p.rank) {
            at--;
        }
        r.queue.add(at, p);
        r.longest = Math.max(r.longest, r.queue.size());
    }

    private void have(P p, R r) {
        r.queue.remove(p);
        p.in = null;
        r.free -= p.asks;
        p.held[resources.indexOf(r)] += p.asks;
        r.holders.remove(p);
        r.holders.addLast(p);
    }

    private void free(P p, R r, int units) {
        int number = resources.indexOf(r);
        p.held[number] -= units;
        r.free += units;
        if (p.held[number] == 0) {
            r.holders.remove(p);
        }
        serve(r);
    }

    private void serve(R r) {
        while (!r.queue.isEmpty() && r.queue.getFirst().asks <= r.free) {
            P first = r.queue.getFirst();
            have(first, r);
            if (first.thrown) {
                first.state = "waiting";
                plan(first, first.rest);
                first.rest = 0;
            } else {
                first.state = "ready";
                plan(first, 0);
            }
        }
    }

    private boolean store(P p, S s, int amount, boolean isGet) {
        if (amount > s.room) {
            over(p, "broken");
            return false;
        }
        p.asks = amount;
        LinkedList<P> row = isGet ? s.gets : s.puts;
        if (row.isEmpty() && can(p, s, isGet)) {
            s.level += isGet ? -amount : amount;
            goOn(s);
            return true;
        }
        row.addLast(p);
        p.in = row;
        p.state = "blocked";
        return false;
    }

    private boolean can(P p, S s, boolean isGet) {
        return isGet ? s.level >= p.asks : s.level + p.asks <= s.room;
    }

    private void goOn(S s) {
        while (true) {
            P p;
            if (!s.gets.isEmpty() && can(s.gets.getFirst(), s, true)) {
                p = s.gets.removeFirst();
                s.level -= p.asks;
            } else if (!s.puts.isEmpty() && can(s.puts.getFirst(), s, false)) {
                p = s.puts.removeFirst();
                s.level += p.asks;
            } else {
                return;
            }
            p.in = null;
            p.state = "ready";
            plan(p, 0);
        }
    }

    // ---- asking

    boolean hasResource(int r) {
        return r >= 0 && r < resources.size();
    }

    boolean hasStore(int s) {
        return s >= 0 && s < stores.size();
    }

    boolean hasTally(int t) {
        return t >= 0 && t < tallies.size();
    }

    boolean hasScript(int s) {
        return s >= 0 && s < scripts.size();
    }

    boolean hasProcess(int p) {
        return p >= 0 && p < all.size();
    }

    int resources() {
        return resources.size();
    }

    int stores() {
        return stores.size();
    }

    int tallies() {
        return tallies.size();
    }

    int scripts() {
        return scripts.size();
    }

    int instructions(int script) {
        return scripts.get(script).size();
    }

    boolean wasStarted(int script) {
        for (P p : all) {
            if (p.script == script) {
                return true;
            }
        }
        return false;
    }

    int time() {
        return now;
    }

    int luck() {
        return luck;
    }

    int events() {
        return agenda.size();
    }

    int nextTime() {
        return agenda.isEmpty() ? -1 : agenda.getFirst().time;
    }

    int processes() {
        return all.size();
    }

    int done() {
        return done;
    }

    int stateOf(int p) {
        return STATES.indexOf(all.get(p).state);
    }

    int placeOf(int p) {
        return all.get(p).place;
    }

    int rankOf(int p) {
        return all.get(p).rank;
    }

    int restOf(int p) {
        return all.get(p).rest;
    }

    int markOf(int p) {
        return all.get(p).mark;
    }

    int eventOf(int p) {
        for (Event e : agenda) {
            if (e.p == all.get(p)) {
                return e.time;
            }
        }
        return -1;
    }

    int holds(int p, int r) {
        return all.get(p).held[r];
    }

    int free(int r) {
        return resources.get(r).free;
    }

    int queued(int r) {
        return resources.get(r).queue.size();
    }

    int queuedAt(int r, int place) {
        return resources.get(r).queue.get(place).number;
    }

    int busy(int r) {
        return resources.get(r).busy;
    }

    int queueing(int r) {
        return resources.get(r).queueing;
    }

    int longest(int r) {
        return resources.get(r).longest;
    }

    int level(int s) {
        return stores.get(s).level;
    }

    int blocked(int s, boolean isGet) {
        return isGet ? stores.get(s).gets.size() : stores.get(s).puts.size();
    }

    int area(int s) {
        return stores.get(s).area;
    }

    int awaiting(int signal) {
        return signals.get(signal).size();
    }

    int tallied(int t) {
        return tallies.get(t).numbers.size();
    }

    int ofTally(int t, int what) {
        List<Integer> numbers = new ArrayList<>(tallies.get(t).numbers);
        if (numbers.isEmpty()) {
            return 0;
        }
        int latest = numbers.get(numbers.size() - 1);
        int sum = numbers.stream().mapToInt(i -> i).sum();
        numbers.sort(null);
        int[] told = {sum, numbers.get(0), numbers.get(numbers.size() - 1), latest};
        return told[what];
    }

    int batches(int t) {
        return tallies.get(t).numbers.size() / tallies.get(t).batch;
    }

    int sumOf(int t, int batch) {
        int size = tallies.get(t).batch;
        return tallies.get(t).numbers.subList(batch * size, batch * size + size).stream()
                .mapToInt(i -> i).sum();
    }

    double spread(int t) {
        BigInteger k = BigInteger.valueOf(batches(t));
        BigInteger sum = BigInteger.ZERO;
        BigInteger squares = BigInteger.ZERO;
        for (int i = 0; i < batches(t); i++) {
            BigInteger s = BigInteger.valueOf(sumOf(t, i));
            sum = sum.add(s);
            squares = squares.add(s.pow(2));
        }
        if (batches(t) < 2) {
            return 0;
        }
        BigInteger size = BigInteger.valueOf(tallies.get(t).batch);
        BigInteger bar = k.multiply(k.subtract(BigInteger.ONE)).multiply(size.pow(2));
        return k.multiply(squares).subtract(sum.pow(2)).doubleValue() / bar.doubleValue();
    }

    int endOf(int process, int most) {
        Model m = anew();
        for (int i = 0; i <= most; i++) {
            if (m.stateOf(process) >= 5) {
                return m.now;
            }
            if (m.agenda.isEmpty()) {
                return -1;
            }
            if (i < most) {
                m.step();
            }
        }
        return -1;
    }

    int wouldBeBusy(int resource, int ticks) {
        Model m = anew();
        m.run(ticks);
        return m.busy(resource);
    }

    long digest() {
        List<Integer> told = new ArrayList<>(Arrays.asList(time(), luck(), events(), nextTime(),
                processes(), done()));
        for (int p = 0; p < all.size(); p++) {
            told.addAll(Arrays.asList(stateOf(p), placeOf(p), rankOf(p), restOf(p), markOf(p),
                    eventOf(p)));
            for (int r = 0; r < resources.size(); r++) {
                told.add(holds(p, r));
            }
        }
        for (int r = 0; r < resources.size(); r++) {
            told.add(free(r));
            told.add(queued(r));
            for (int i = 0; i < queued(r); i++) {
                told.add(queuedAt(r, i));
            }
            told.addAll(Arrays.asList(busy(r), queueing(r), longest(r)));
        }
        for (int s = 0; s < stores.size(); s++) {
            told.addAll(Arrays.asList(level(s), blocked(s, false), blocked(s, true), area(s)));
        }
        for (int i = 0; i < 4; i++) {
            told.add(awaiting(i));
        }
        for (int t = 0; t < tallies.size(); t++) {
            told.add(tallied(t));
            for (int what = 0; what < 4; what++) {
                told.add(ofTally(t, what));
            }
            told.add(batches(t));
            for (int i = 0; i < batches(t); i++) {
                told.add(sumOf(t, i));
            }
        }
        long d = 58032;
        for (int x : told) {
            d = d * 31 + x;
        }
        return d;
    }
}
