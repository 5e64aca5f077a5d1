import java.util.Arrays;

/** Objects that several tests begin with. */
final class Worlds {

    private Worlds() {
    }

    /** Two of all things that an instruction can name, and two scripts. */
    static Sandglass pairs() {
        Sandglass x = new Sandglass();
        x.addResource(0, 1);
        x.addResource(2, 9);
        x.addStore(1, 0);
        x.addStore(99, 99);
        x.addTally(1);
        x.addTally(20);
        x.addScript();
        x.addScript();
        return x;
    }

    /** At the TIME 2 the process n is in the state n, for each of the 8 states; 8 holds a unit. */
    static Sandglass states() {
        Sandglass x = new Sandglass();
        x.addResource(0, 1);
        x.addStore(5, 5);
        int waiter = Check.script(x, Check.pause(50, 0), Check.await(1));
        int queuer = Check.script(x, Check.seize(0, 1), Check.await(1));
        int putter = Check.script(x, Check.put(0, 1), Check.await(1));
        int awaiter = Check.script(x, Check.await(0), Check.await(1));
        int ender = Check.script(x);
        int breaker = Check.script(x, Check.seize(0, 2));
        int holder = Check.script(x, Check.seize(0, 1), Check.await(2));
        x.start(waiter, 3, 9);
        x.start(waiter, 3, 0);
        x.start(queuer, 3, 1);
        x.start(putter, 3, 0);
        x.start(awaiter, 3, 0);
        x.start(ender, 3, 0);
        x.start(breaker, 3, 0);
        x.start(waiter, 3, 0);
        x.start(holder, 3, 0);
        x.cancel(7);
        x.run(2);
        return x;
    }

    /** As many of all as there can be: 6 resources, 4 stores, 4 tallies, 8 scripts, 24 processes. */
    static Sandglass full() {
        Sandglass x = new Sandglass();
        for (int i = 0; i < 6; i++) {
            x.addResource((i + 2) % 3, i + 1);
        }
        x.addStore(5, 5);
        x.addStore(9, 0);
        x.addStore(99, 50);
        x.addStore(1, 0);
        x.addTally(1);
        x.addTally(2);
        x.addTally(3);
        x.addTally(20);
        fullScripts(x);
        x.setLuck(1234);
        for (int i = 0; i < 24; i++) {
            x.start(i % 7, (i * 7) % 10, (i * 3) % 11);
        }
        x.run(9);
        return x;
    }

    /** Eight scripts; nobody starts the last one, which has 16 instructions. */
    private static void fullScripts(Sandglass x) {
        int[][][] scripts = {
            {Check.seize(0, 1), Check.pause(4, 6), Check.tally(0), Check.release(0, 1),
                Check.again(0, 3)},
            {Check.seize(1, 2), Check.pause(3, 3), Check.put(0, 2), Check.tally(1),
                Check.release(1, 1), Check.release(1, 2), Check.again(0, 2)},
            {Check.get(0, 3), Check.seize(3, 2), Check.pause(9, 0), Check.tally(2),
                Check.release(3, 2), Check.again(0, 2)},
            {Check.get(1, 4), Check.signal(1), Check.rest(), Check.tally(1), Check.again(0, 1)},
            {Check.await(1), Check.put(1, 3), Check.mark(), Check.again(0, 1)},
            {Check.rank(2), Check.seize(0, 1), Check.pause(2, 0), Check.release(0, 1),
                Check.spawn(7, 0), Check.skip(2, 60), Check.signal(1), Check.tally(3),
                Check.again(1, 3)},
            {Check.pause(12, 4), Check.seize(5, 3), Check.rest(), Check.release(5, 3),
                Check.again(0, 2)},
            new int[16][],
        };
        Arrays.fill(scripts[7], Check.mark());
        for (int i = 0; i < scripts.length; i++) {
            x.addScript();
        }
        for (int i = 0; i < scripts.length; i++) {
            for (int[] instruction : scripts[i]) {
                x.add(i, instruction[0], instruction[1], instruction[2]);
            }
        }
        x.setHandler(0, 1);
        x.setHandler(6, 2);
    }
}
