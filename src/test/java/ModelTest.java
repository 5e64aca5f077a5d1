import java.util.function.Supplier;

/** Many runs of calls, drawn from fixed seeds, on the program and on the model side by side. */
public final class ModelTest {

    private static final int RUNS = 2000;
    /** Behind the 512th call answers are free, and one round makes up to ten calls. */
    private static final int MOST_CALLS = 512 - 10;
    private static final int[] ALL_CODES = {
        0, 0, 0, 0, 1, 1, 1, 1, 2, 2, 3, 3, 4, 4, 5, 6, 7, 8, 9, 9, 10, 10, 11, 12, 13,
    };
    /** Crowded resources, where many are thrown out and come back. */
    private static final int[] TAKING_CODES = {0, 0, 0, 0, 1, 1, 1, 1, 1, 2, 7, 10, 10, 11, 12};
    private static final int[] STORE_CODES = {0, 3, 3, 3, 4, 4, 4, 5, 6, 7, 10, 10, 13};

    private final Sandglass x = new Sandglass();
    private final Model m = new Model();
    private final int[] codes;
    private final StringBuilder told = new StringBuilder();
    private long seed;
    private int made;
    private boolean wrong;

    private ModelTest(int run) {
        seed = run * 7919L + 1;
        codes = run % 4 == 1 ? TAKING_CODES : run % 4 == 3 ? STORE_CODES : ALL_CODES;
    }

    public static void main(String[] args) {
        int wrongRuns = 0;
        for (int run = 0; run < RUNS && wrongRuns < 5; run++) {
            ModelTest test = new ModelTest(run);
            test.go();
            if (test.wrong) {
                wrongRuns++;
                Check.fail("run " + run + ":\n" + test.told);
            }
        }
        Check.due("wrong runs", 0, wrongRuns);
        Check.end();
    }

    /** A number from least to most. */
    private int draw(int least, int most) {
        seed = seed * 6364136223846793005L + 1442695040888963407L;
        return least + (int) ((seed >>> 33) % (most - least + 1));
    }

    /** Mostly a number from least to most, now and then one just outside or far away. */
    private int loose(int least, int most) {
        int kind = draw(0, 40);
        if (kind == 0) {
            return least - 1;
        } else if (kind == 1) {
            return most + 1;
        } else if (kind == 2) {
            return draw(0, 1) == 0 ? Integer.MIN_VALUE : Integer.MAX_VALUE;
        }
        return most < least ? least : draw(least, most);
    }

    private void go() {
        furnish();
        int calls = draw(0, 9) == 0 ? MOST_CALLS : draw(30, 150);
        for (int i = 0; i < calls && made <= MOST_CALLS && !wrong; i++) {
            act();
            same("digest()", null, () -> m.digest(), () -> x.digest());
            if (!wrong) {
                ask();
            }
        }
    }

    // ---- what is compared

    /** due is the name of the exception that is due, or null. */
    private void same(String call, String due, Supplier<Object> model, Supplier<Object> program) {
        if (wrong) {
            return;
        }
        String want = due == null ? String.valueOf(model.get()) : due;
        String got;
        made++;
        try {
            got = String.valueOf(program.get());
        } catch (RuntimeException e) {
            got = e.getClass().getSimpleName();
        }
        if (!call.equals("digest()") || !want.equals(got)) {
            told.append(call).append(" answered ").append(got).append('\n');
        }
        if (!want.equals(got)) {
            told.append("  due is ").append(want).append('\n');
            wrong = true;
        }
    }

    private static boolean in(int x, int least, int most) {
        return x >= least && x <= most;
    }

    // ---- what there is

    private void furnish() {
        for (int i = draw(1, 3); i > 0; i--) {
            addResource();
        }
        for (int i = draw(codes == STORE_CODES ? 1 : 0, 2); i > 0; i--) {
            addStore();
        }
        for (int i = draw(0, 2); i > 0; i--) {
            addTally();
        }
        int scripts = draw(1, 5);
        for (int i = 0; i < scripts; i++) {
            addScript();
        }
        for (int script = 0; script < scripts; script++) {
            for (int i = draw(2, 16); i > 0; i--) {
                add(script);
            }
            if (draw(0, 1) == 0) {
                setHandler(script);
            }
        }
        setLuck();
        for (int i = draw(1, 12); i > 0; i--) {
            start();
        }
    }

    private void addResource() {
        int kind = codes == TAKING_CODES && draw(0, 3) > 0 ? 2 : loose(0, 2);
        int units = loose(1, draw(1, 9));
        String due = !in(kind, 0, 2) || !in(units, 1, 9) ? Check.ARGUMENT
                : m.resources() >= 6 ? Check.STATE : null;
        same("addResource(" + kind + ", " + units + ")", due,
                () -> m.addResource(kind, units), () -> x.addResource(kind, units));
    }

    private void addStore() {
        int room = loose(1, draw(0, 2) == 0 ? 99 : 9);
        int level = loose(0, Math.max(0, Math.min(room, 99)));
        String due = !in(room, 1, 99) || !in(level, 0, room) ? Check.ARGUMENT
                : m.stores() >= 4 ? Check.STATE : null;
        same("addStore(" + room + ", " + level + ")", due,
                () -> m.addStore(room, level), () -> x.addStore(room, level));
    }

    private void addTally() {
        int batch = loose(1, draw(0, 3) == 0 ? 20 : 3);
        String due = !in(batch, 1, 20) ? Check.ARGUMENT : m.tallies() >= 4 ? Check.STATE : null;
        same("addTally(" + batch + ")", due, () -> m.addTally(batch), () -> x.addTally(batch));
    }

    private void addScript() {
        String due = m.scripts() >= 8 ? Check.STATE : null;
        same("addScript()", due, () -> m.addScript(), () -> x.addScript());
    }

    private void add(int script) {
        int code = draw(0, 40) == 0 ? loose(0, 13) : codes[draw(0, codes.length - 1)];
        int a = firstNumber(code);
        int b = secondNumber(code);
        String due = !m.hasScript(script) ? Check.INDEX
                : !stands(code, a, b) ? Check.ARGUMENT
                : m.instructions(script) >= 16 || m.wasStarted(script) ? Check.STATE : null;
        same("add(" + script + ", " + code + ", " + a + ", " + b + ")", due,
                () -> m.add(script, code, a, b), () -> x.add(script, code, a, b));
    }

    private int firstNumber(int code) {
        int[] most = {99, m.resources() - 1, m.resources() - 1, m.stores() - 1, m.stores() - 1,
            3, 3, m.scripts() - 1, 0, m.tallies() - 1, 15, 0, 9, m.stores() - 1};
        if (!in(code, 0, 13)) {
            return 0;
        }
        if (code == 0 && draw(0, 3) > 0) {
            return draw(0, 12);
        }
        if (code == 5 || code == 6) {
            return loose(0, draw(0, 3));
        }
        return loose(0, code == 10 && draw(0, 2) > 0 ? 5 : most[code]);
    }

    private int secondNumber(int code) {
        int[] most = {50, 9, 9, 99, 99, 0, 0, 9, 0, 0, 20, 0, 0, 99};
        int[] often = {6, 3, 4, 6, 6, 0, 0, 9, 0, 0, 4, 0, 0, 8};
        int[] least = {0, 1, 1, 1, 1, 0, 0, 0, 0, 0, 0, 0, 0, 1};
        if (!in(code, 0, 13)) {
            return 0;
        }
        return loose(least[code], draw(0, 7) == 0 ? most[code] : often[code]);
    }

    private boolean stands(int code, int a, int b) {
        switch (code) {
            case 0: return in(a, 0, 99) && in(b, 0, 50);
            case 1: case 2: return m.hasResource(a) && in(b, 1, 9);
            case 3: case 4: case 13: return m.hasStore(a) && in(b, 1, 99);
            case 5: case 6: return in(a, 0, 3);
            case 7: return m.hasScript(a) && in(b, 0, 9);
            case 8: case 11: return true;
            case 9: return m.hasTally(a);
            case 10: return in(a, 0, 15) && in(b, 0, 20);
            case 12: return in(a, 0, 9);
            default: return false;
        }
    }

    private void setHandler(int script) {
        int handler = loose(-1, 15);
        String due = !m.hasScript(script) ? Check.INDEX
                : !in(handler, -1, 15) ? Check.ARGUMENT : null;
        same("setHandler(" + script + ", " + handler + ")", due,
                () -> m.setHandler(script, handler), () -> x.setHandler(script, handler));
    }

    private void setLuck() {
        int luck = loose(0, 9999);
        String due = !in(luck, 0, 9999) ? Check.ARGUMENT : null;
        same("setLuck(" + luck + ")", due, () -> m.setLuck(luck), () -> x.setLuck(luck));
    }

    // ---- processes and time

    private void act() {
        int kind = draw(0, 19);
        if (kind < 8) {
            same("step()", m.events() == 0 ? Check.STATE : null, () -> m.step(), () -> x.step());
        } else if (kind < 11) {
            int ticks = draw(0, 9) == 0 ? loose(0, 999) : loose(0, 12);
            String due = !in(ticks, 0, 999) ? Check.ARGUMENT : null;
            same("run(" + ticks + ")", due, () -> m.run(ticks), () -> x.run(ticks));
        } else if (kind < 14) {
            int p = loose(0, m.processes() - 1);
            String due = !m.hasProcess(p) ? Check.INDEX
                    : !in(m.stateOf(p), 1, 4) ? Check.STATE : null;
            same("interrupt(" + p + ")", due, () -> m.interrupt(p), () -> x.interrupt(p));
        } else if (kind < 15) {
            int p = loose(0, m.processes() - 1);
            String due = !m.hasProcess(p) ? Check.INDEX : m.stateOf(p) > 4 ? Check.STATE : null;
            same("cancel(" + p + ")", due, () -> m.cancel(p), () -> x.cancel(p));
        } else if (kind < 18) {
            start();
        } else {
            tellMore();
        }
    }

    private void start() {
        int script = loose(0, m.scripts() - 1);
        int rank = loose(0, 9);
        int delay = loose(0, draw(0, 9) == 0 ? 999 : 4);
        String due = !m.hasScript(script) ? Check.INDEX
                : !in(rank, 0, 9) || !in(delay, 0, 999) ? Check.ARGUMENT
                : m.processes() >= 24 ? Check.STATE : null;
        same("start(" + script + ", " + rank + ", " + delay + ")", due,
                () -> m.start(script, rank, delay), () -> x.start(script, rank, delay));
    }

    private void tellMore() {
        switch (draw(0, 6)) {
            case 0: addResource(); break;
            case 1: addStore(); break;
            case 2: addTally(); break;
            case 3: addScript(); break;
            case 4: setHandler(loose(0, m.scripts() - 1)); break;
            case 5: setLuck(); break;
            default: add(loose(0, m.scripts() - 1)); break;
        }
    }

    // ---- asking

    private void ask() {
        int p = loose(0, m.processes() - 1);
        int r = loose(0, m.resources() - 1);
        String dueP = m.hasProcess(p) ? null : Check.INDEX;
        String dueR = m.hasResource(r) ? null : Check.INDEX;
        switch (draw(0, 20)) {
            case 0:
                int most = loose(1, draw(0, 1) == 0 ? 9 : 100);
                same("endOf(" + p + ", " + most + ")",
                        dueP != null ? dueP : in(most, 1, 100) ? null : Check.ARGUMENT,
                        () -> m.endOf(p, most), () -> x.endOf(p, most));
                break;
            case 1:
                int ticks = loose(0, draw(0, 1) == 0 ? 9 : 999);
                same("wouldBeBusy(" + r + ", " + ticks + ")",
                        dueR != null ? dueR : in(ticks, 0, 999) ? null : Check.ARGUMENT,
                        () -> m.wouldBeBusy(r, ticks), () -> x.wouldBeBusy(r, ticks));
                break;
            case 2:
                same("stateOf(" + p + ")", dueP, () -> m.stateOf(p), () -> x.stateOf(p));
                same("eventOf(" + p + ")", dueP, () -> m.eventOf(p), () -> x.eventOf(p));
                same("placeOf(" + p + ")", dueP, () -> m.placeOf(p), () -> x.placeOf(p));
                same("rankOf(" + p + ")", dueP, () -> m.rankOf(p), () -> x.rankOf(p));
                same("restOf(" + p + ")", dueP, () -> m.restOf(p), () -> x.restOf(p));
                same("markOf(" + p + ")", dueP, () -> m.markOf(p), () -> x.markOf(p));
                same("holds(" + p + ", " + r + ")", dueP != null ? dueP : dueR,
                        () -> m.holds(p, r), () -> x.holds(p, r));
                break;
            case 3:
                same("free(" + r + ")", dueR, () -> m.free(r), () -> x.free(r));
                same("queued(" + r + ")", dueR, () -> m.queued(r), () -> x.queued(r));
                same("busy(" + r + ")", dueR, () -> m.busy(r), () -> x.busy(r));
                same("queueing(" + r + ")", dueR, () -> m.queueing(r), () -> x.queueing(r));
                same("longest(" + r + ")", dueR, () -> m.longest(r), () -> x.longest(r));
                int place = loose(0, 3);
                same("queuedAt(" + r + ", " + place + ")",
                        dueR == null && in(place, 0, m.queued(r) - 1) ? null : Check.INDEX,
                        () -> m.queuedAt(r, place), () -> x.queuedAt(r, place));
                break;
            case 4:
                askStores(loose(0, m.stores() - 1));
                break;
            case 5:
                askTallies(loose(0, m.tallies() - 1));
                break;
            case 6:
                same("time()", null, () -> m.time(), () -> x.time());
                same("luck()", null, () -> m.luck(), () -> x.luck());
                same("events()", null, () -> m.events(), () -> x.events());
                same("nextTime()", null, () -> m.nextTime(), () -> x.nextTime());
                same("processes()", null, () -> m.processes(), () -> x.processes());
                same("done()", null, () -> m.done(), () -> x.done());
                break;
            default:
                break;
        }
    }

    private void askStores(int s) {
        String due = m.hasStore(s) ? null : Check.INDEX;
        same("level(" + s + ")", due, () -> m.level(s), () -> x.level(s));
        same("blocked(" + s + ", true)", due, () -> m.blocked(s, true), () -> x.blocked(s, true));
        same("blocked(" + s + ", false)", due, () -> m.blocked(s, false),
                () -> x.blocked(s, false));
        same("area(" + s + ")", due, () -> m.area(s), () -> x.area(s));
        int signal = loose(0, 3);
        same("awaiting(" + signal + ")", in(signal, 0, 3) ? null : Check.INDEX,
                () -> m.awaiting(signal), () -> x.awaiting(signal));
    }

    private void askTallies(int t) {
        String due = m.hasTally(t) ? null : Check.INDEX;
        same("tallied(" + t + ")", due, () -> m.tallied(t), () -> x.tallied(t));
        same("batches(" + t + ")", due, () -> m.batches(t), () -> x.batches(t));
        same("spread(" + t + ")", due, () -> m.spread(t), () -> x.spread(t));
        int what = loose(0, 3);
        same("ofTally(" + t + ", " + what + ")",
                due != null ? due : in(what, 0, 3) ? null : Check.ARGUMENT,
                () -> m.ofTally(t, what), () -> x.ofTally(t, what));
        int batch = loose(0, 3);
        same("sumOf(" + t + ", " + batch + ")",
                due == null && in(batch, 0, m.batches(t) - 1) ? null : Check.INDEX,
                () -> m.sumOf(t, batch), () -> x.sumOf(t, batch));
    }
}
