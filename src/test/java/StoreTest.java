/** The term 5, stores; with it promises 33 to 35. */
public final class StoreTest {

    public static void main(String[] args) {
        atOnce();
        putWaits();
        getWaits();
        notAheadOfOthers();
        chain();
        getsFirst();
        brokenOnes();
        area();
        cancelGoesOn();
        askingThrows();
        Check.end();
    }

    private static void atOnce() {
        Check.promise(33, "level, with what is done at once");
        Sandglass x = new Sandglass();
        x.addStore(10, 3);
        x.addStore(10, 3);
        int script = Check.script(x, Check.put(0, 7), Check.get(0, 10), Check.put(0, 4),
                Check.get(0, 4), Check.put(1, 1), Check.await(0));
        x.start(script, 0, 0);
        x.step();
        Check.due("it came through all", 4, x.stateOf(0));
        Check.due("level", 0, x.level(0));
        Check.due("level of the other", 4, x.level(1));
        Check.due("done", 6, x.done());
        Check.due("events", 0, x.events());
    }

    private static void putWaits() {
        Check.promise(34, "blocked, with a PUT");
        Sandglass x = new Sandglass();
        x.addStore(10, 6);
        int put = Check.script(x, Check.put(0, 5), Check.await(0));
        int get = Check.script(x, Check.get(0, 1), Check.await(1));
        x.start(put, 0, 0);
        x.run(2);
        Check.due("state", 3, x.stateOf(0));
        Check.due("event", -1, x.eventOf(0));
        Check.due("blocked with a PUT", 1, x.blocked(0, false));
        Check.due("blocked with a GET", 0, x.blocked(0, true));
        Check.due("level", 6, x.level(0));
        x.start(get, 0, 0);
        x.step();
        Check.due("level", 10, x.level(0));
        Check.due("blocked", 0, x.blocked(0, false));
        Check.due("state", 0, x.stateOf(0));
        Check.due("event", 2, x.eventOf(0));
        Check.due("place", 1, x.placeOf(0));
        Check.due("the getter went on first", 1, x.awaiting(1));
        x.step();
        Check.due("then the putter", 1, x.awaiting(0));
    }

    private static void getWaits() {
        Check.promise(34, "blocked, with a GET");
        Sandglass x = new Sandglass();
        x.addStore(10, 2);
        int get = Check.script(x, Check.get(0, 3), Check.await(0));
        int put = Check.script(x, Check.put(0, 8), Check.await(1));
        x.start(get, 0, 0);
        x.run(0);
        Check.due("blocked with a GET", 1, x.blocked(0, true));
        Check.due("blocked with a PUT", 0, x.blocked(0, false));
        x.start(put, 0, 0);
        x.run(0);
        Check.due("level", 7, x.level(0));
        Check.due("blocked with a GET", 0, x.blocked(0, true));
        Check.due("awaiting", 1, x.awaiting(0));
    }

    private static void notAheadOfOthers() {
        Check.promise(34, "blocked: who comes later waits behind those with the same code");
        Sandglass x = new Sandglass();
        x.addStore(10, 8);
        int wide = Check.script(x, Check.put(0, 5));
        int narrow = Check.script(x, Check.put(0, 1));
        int get = Check.script(x, Check.get(0, 4));
        x.start(wide, 9, 0);
        x.start(narrow, 0, 0);
        x.run(0);
        Check.due("blocked, both", 2, x.blocked(0, false));
        Check.due("level", 8, x.level(0));
        x.start(get, 0, 0);
        Check.due("a GET is done though PUTs are blocked", 3, x.run(0));
        Check.due("level", 10, x.level(0));

        Sandglass y = new Sandglass();
        y.addStore(10, 2);
        int many = Check.script(y, Check.get(0, 5));
        int few = Check.script(y, Check.get(0, 1));
        int put = Check.script(y, Check.put(0, 2));
        y.start(many, 9, 0);
        y.start(few, 0, 0);
        y.run(0);
        Check.due("blocked, both", 2, y.blocked(0, true));
        y.start(put, 0, 0);
        y.run(0);
        Check.due("a PUT is done, but too little", 4, y.level(0));
        Check.due("blocked, both", 2, y.blocked(0, true));
        y.start(put, 0, 0);
        y.run(0);
        Check.due("level", 0, y.level(0));
        Check.due("blocked", 0, y.blocked(0, true));
    }

    private static void chain() {
        Check.promise(33, "level, as one thing done lets others be done");
        Sandglass x = new Sandglass();
        x.addStore(6, 6);
        int put = Check.script(x, Check.put(0, 4), Check.pause(5, 0));
        int big = Check.script(x, Check.get(0, 6), Check.get(0, 6), Check.get(0, 1));
        x.start(put, 0, 0);
        x.start(put, 0, 1);
        x.run(1);
        Check.due("blocked", 2, x.blocked(0, false));
        x.start(big, 0, 0);
        x.step();
        Check.due("level", 4, x.level(0));
        Check.due("blocked with a PUT", 1, x.blocked(0, false));
        Check.due("blocked with a GET", 1, x.blocked(0, true));
        Check.due("the first PUT goes on", 0, x.step());
        Check.due("the second one cannot", 3, x.stateOf(1));
    }

    private static void getsFirst() {
        Check.promise(33, "level: the first GET is looked at ahead of the first PUT");
        Sandglass x = new Sandglass();
        x.addStore(10, 5);
        int putSix = Check.script(x, Check.put(0, 6), Check.await(0));
        int getSix = Check.script(x, Check.get(0, 6), Check.await(0));
        int getFour = Check.script(x, Check.get(0, 4), Check.await(0));
        int putOne = Check.script(x, Check.put(0, 1), Check.await(1));
        x.start(putSix, 0, 0);
        x.start(getSix, 0, 0);
        x.start(getFour, 0, 0);
        x.run(0);
        Check.due("blocked with a PUT", 1, x.blocked(0, false));
        Check.due("blocked with a GET", 2, x.blocked(0, true));
        x.start(putOne, 0, 0);
        x.run(0);
        Check.due("a PUT waits behind the PUT blocked", 2, x.blocked(0, false));
        Check.due("cancel of the first PUT", 0, x.cancel(0));
        Check.due("level: PUT of 1, then GET of 6", 0, x.level(0));
        Check.due("the PUT was done first", 3, x.step());
        Check.due("then the GET", 1, x.step());
        Check.due("blocked with a GET", 1, x.blocked(0, true));

        Sandglass y = new Sandglass();
        y.addStore(4, 2);
        int putThree = Check.script(y, Check.put(0, 3), Check.await(0));
        int getThree = Check.script(y, Check.get(0, 3), Check.await(0));
        int getOne = Check.script(y, Check.get(0, 1), Check.await(0));
        int getTwo = Check.script(y, Check.get(0, 2), Check.await(0));
        y.start(putThree, 0, 0);
        y.start(getThree, 0, 0);
        y.start(getOne, 0, 0);
        y.start(getTwo, 0, 0);
        y.run(0);
        Check.due("blocked with a GET", 3, y.blocked(0, true));
        Check.due("cancel of the first GET", 0, y.cancel(1));
        Check.due("GET of 1; GET of 2 not; PUT of 3; GET of 2", 2, y.level(0));
        Check.due("order", 2, y.step());
        Check.due("order", 0, y.step());
        Check.due("order", 3, y.step());
    }

    private static void brokenOnes() {
        Check.promise(20, "stateOf BROKEN, by a PUT or GET above the room");
        Sandglass x = new Sandglass();
        x.addStore(5, 5);
        x.addStore(5, 0);
        int put = Check.script(x, Check.put(0, 6));
        int get = Check.script(x, Check.get(1, 6));
        int fullPut = Check.script(x, Check.put(1, 5), Check.await(0));
        int fullGet = Check.script(x, Check.get(0, 5), Check.await(0));
        x.start(put, 0, 0);
        x.start(get, 0, 0);
        x.start(fullPut, 0, 0);
        x.start(fullGet, 0, 0);
        x.run(0);
        Check.due("PUT above the room", 6, x.stateOf(0));
        Check.due("GET above the room", 6, x.stateOf(1));
        Check.due("PUT of all the room", 4, x.stateOf(2));
        Check.due("GET of all the room", 4, x.stateOf(3));
        Check.due("blocked", 0, x.blocked(0, false));
        Check.due("blocked", 0, x.blocked(1, true));
    }

    private static void area() {
        Check.promise(35, "area");
        Sandglass x = new Sandglass();
        x.addStore(20, 4);
        x.addStore(20, 0);
        int script = Check.script(x, Check.put(0, 6), Check.pause(3, 0), Check.get(0, 9));
        x.run(2);
        Check.due("area", 8, x.area(0));
        x.start(script, 0, 3);
        x.run(5);
        Check.due("area", 8 + 12 + 20, x.area(0));
        x.run(10);
        Check.due("area", 8 + 12 + 30 + 9, x.area(0));
        Check.due("area of the other", 0, x.area(1));
    }

    private static void cancelGoesOn() {
        Check.promise(13, "cancel of one BLOCKED: the store is gone on with");
        Sandglass x = new Sandglass();
        x.addStore(10, 9);
        int wide = Check.script(x, Check.put(0, 4), Check.await(0));
        int narrow = Check.script(x, Check.put(0, 1), Check.await(0));
        x.start(wide, 0, 0);
        x.start(narrow, 0, 0);
        x.run(0);
        x.cancel(1);
        Check.due("the second one leaves", 1, x.blocked(0, false));
        Check.due("level", 9, x.level(0));
        x.start(narrow, 0, 0);
        x.run(0);
        x.cancel(0);
        Check.due("level", 10, x.level(0));
        Check.due("blocked", 0, x.blocked(0, false));
        Check.due("state", 0, x.stateOf(2));
    }

    private static void askingThrows() {
        Check.promise(33, "asking for stores that there are not: promises 33 to 35");
        Sandglass x = new Sandglass();
        x.addStore(1, 0);
        int[] none = {-1, 1, 4, Integer.MIN_VALUE, Integer.MAX_VALUE};
        for (int s : none) {
            Check.dueThrow(Check.INDEX, x, "level(" + s + ")", () -> x.level(s));
            Check.dueThrow(Check.INDEX, x, "area(" + s + ")", () -> x.area(s));
            Check.dueThrow(Check.INDEX, x, "blocked(" + s + ", true)", () -> x.blocked(s, true));
            Check.dueThrow(Check.INDEX, x, "blocked(" + s + ", false)", () -> x.blocked(s, false));
        }
    }
}
