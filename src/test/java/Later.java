import java.util.ArrayList;
import java.util.List;
import java.util.function.LongSupplier;

/**
 * Goes on with an object and notes all answers: two objects that answer alike here hold alike also
 * what no call tells, such as handlers, counters and who got units last.
 */
final class Later {

    private final Sandglass x;
    private final List<String> told = new ArrayList<>();

    private Later(Sandglass x) {
        this.x = x;
    }

    /** Makes some 190 calls. */
    static List<String> of(Sandglass x) {
        Later later = new Later(x);
        later.note("digest", x::digest);
        later.things();
        later.events(30);
        later.urgentOnes();
        later.interrupts();
        later.events(20);
        later.ends();
        return later.told;
    }

    /** What a call answers, or the name of what it throws. */
    static String answer(LongSupplier call) {
        try {
            return Long.toString(call.getAsLong());
        } catch (RuntimeException e) {
            return e.getClass().getSimpleName();
        }
    }

    private void note(String what, LongSupplier call) {
        told.add(what + " " + answer(call));
    }

    private void things() {
        note("luck before", () -> x.setLuck(77));
        for (int i = 0; i < 8; i++) {
            int script = i;
            note("handler before", () -> x.setHandler(script, 1));
            note("number of an instruction", () -> x.add(script, 8, 0, 0));
        }
        for (int i = 0; i < 4; i++) {
            int tally = i;
            note("spread", () -> Double.doubleToLongBits(x.spread(tally)));
        }
        note("number of a resource", () -> x.addResource(2, 2));
        note("number of a store", () -> x.addStore(3, 1));
        note("number of a tally", () -> x.addTally(2));
        note("number of a script", x::addScript);
    }

    private void events(int steps) {
        for (int i = 0; i < steps; i++) {
            note("step", x::step);
            note("digest", x::digest);
        }
    }

    /** One of rank 0 with each script, so that VICTIMS and rows are looked at. */
    private void urgentOnes() {
        for (int i = 0; i < 8; i++) {
            int script = i;
            note("number of a process", () -> x.start(script, 0, 0));
        }
        note("run", () -> x.run(3));
        note("digest", x::digest);
    }

    private void interrupts() {
        for (int i = 0; i < 24; i++) {
            int process = i;
            note("interrupt", () -> x.interrupt(process));
        }
        note("digest", x::digest);
    }

    private void ends() {
        for (int i = 0; i < 24; i++) {
            int process = i;
            note("cancel", () -> x.cancel(process));
        }
        note("digest", x::digest);
        note("run", () -> x.run(999));
        note("digest", x::digest);
    }
}
