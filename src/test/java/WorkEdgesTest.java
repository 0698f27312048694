/** The edges of watches and work: Terms, and the promises 27 to 31. */
public final class WorkEdgesTest {
    private static final int A = Keyterrace.ABSENT, N = Keyterrace.NONE;
    private static final int SET = Keyterrace.SET, CLEARED = Keyterrace.CLEARED, ADDED = Keyterrace.ADDED;

    /** By which version a watch of (1, 1) is fired that is made behind one commit that sets it to 9. */
    private static int firedBy(Twins.Calls calls) {
        Keyterrace x = new Keyterrace();
        States.put(x, 1, 1, A, 9);
        x.watch(1, 1, A);
        calls.on(x);
        return x.fired(0);
    }

    private static Twins.Calls change(int kind, int value) {
        return x -> {
            x.begin(3, false);
            x.change(3, kind, 1, 1, A, value);
            x.commit(3);
        };
    }

    private static void twentyWatches() {
        Check.says(27, "Watches a key.");
        Check.says(27, "`a`: its first number");
        Check.says(27, "`b`: its second one, or ABSENT");
        Check.says(27, "`c`: its third one, or ABSENT");
        Check.says(27, "Returns the number of the watch, from 0.");
        Check.says(28, "`watch`: its number");
        Keyterrace x = new Keyterrace();
        Check.noPlace("none at first", () -> x.fired(0));
        int[][] keys = {{1, A, A}, {1, 2, A}, {1, 2, 3}, {-999, A, A}, {9999, 9999, 9999}, {1, A, A}};
        for (int i = 0; i < 20; i++) {
            int next = i + 1;
            int[] k = keys[i % keys.length];
            Check.due("watch " + i, x.watch(k[0], k[1], k[2]), i);
            Check.due("not fired", x.fired(i), N);
            Check.noPlace("not the next", () -> x.fired(next));
        }
        Check.noState("the 21st", () -> x.watch(1, A, A));
        Check.noPlace("is none", () -> x.fired(20));
        Check.noPlace("-1", () -> x.fired(-1));
        x.begin(0, false);
        x.change(0, SET, 1, A, A, 1);
        x.change(0, SET, 1, 2, 3, 1);
        x.change(0, SET, 9999, 9999, 9999, 1);
        x.commit(0);
        int[] due = {1, N, 1, N, 1, 1};
        for (int i = 0; i < 20; i++) {
            Check.due("fired " + i, x.fired(i), due[i % keys.length]);
        }
    }

    private static void fired() {
        Check.says(0, "A watch of a key is fired by the first commit, behind it was made, that changes its value, or whether it "
            + "has one.");
        Check.says(28, "Returns by which version a watch was fired.");
        Check.says(28, "Returns the version, NONE if it was not.");
        Check.due("no commit behind it", firedBy(x -> { }), N);
        Check.due("another value", firedBy(change(SET, 8)), 2);
        Check.due("the same value", firedBy(change(SET, 9)), N);
        Check.due("no value", firedBy(change(CLEARED, 0)), 2);
        Check.due("ADDED 0", firedBy(change(ADDED, 0)), N);
        Check.due("ADDED 1", firedBy(change(ADDED, 1)), 2);
        Check.due("the range cleared", firedBy(x -> States.clearRange(x, 1, A)), 2);
        Check.due("another range cleared", firedBy(x -> States.clearRange(x, 1, 2)), N);
        Check.due("another key", firedBy(x -> States.put(x, 1, 1, 1, 8)), N);
        Check.due("to and fro by one commit", firedBy(x -> {
            x.begin(0, false);
            x.change(0, SET, 1, 1, A, 8);
            x.change(0, CLEARED, 1, 1, A, 8);
            x.change(0, SET, 1, 1, A, 9);
            x.commit(0);
        }), N);
        Check.due("the first commit", firedBy(x -> {
            change(SET, 9).on(x);
            change(SET, 8).on(x);
            change(SET, 7).on(x);
        }), 3);
        Check.due("it stays when the value comes again", firedBy(x -> {
            change(SET, 8).on(x);
            change(SET, 9).on(x);
        }), 2);
        Check.due("what is not committed", firedBy(x -> {
            x.begin(0, false);
            x.change(0, SET, 1, 1, A, 8);
        }), N);
        Check.due("versions that go by", firedBy(x -> {
            x.pass(10);
            x.recover();
        }), N);
        Check.due("LOST, done", firedBy(x -> {
            x.lose(true);
            change(SET, 8).on(x);
        }), 2);
        Check.due("LOST, not done", firedBy(x -> {
            x.lose(false);
            change(SET, 8).on(x);
        }), N);
        whetherItHasOne();
    }

    private static void whetherItHasOne() {
        Check.says(0, "or whether it has one.");
        Keyterrace x = new Keyterrace();
        x.watch(1, A, A);
        States.clearKey(x, 1, A, A);
        States.clearRange(x, 1, A);
        Check.due("none before, none now", x.fired(0), N);
        States.put(x, 1, A, A, 0);
        Check.due("0 is one", x.fired(0), 3);
        x.watch(1, A, A);
        Check.due("one that is made behind it", x.fired(1), N);
        States.clearKey(x, 1, A, A);
        Check.due("none now", x.fired(1), 4);
        Check.due("the other one stays", x.fired(0), 3);
        Keyterrace y = new Keyterrace();
        int[][] layers = {{-1, 4, A}, {-2, 5, 4}, {-3, 5, A}, {-4, 1, 4}, {-5, 1, A}, {-6, 2, A}, {-7, 1, A}};
        int[] due = {1, 1, 1, 1, 1, 3, 2};
        for (int[] k : layers) {
            y.watch(k[0], k[1], k[2]);
        }
        y.begin(0, false);
        y.save(0, 4, 5);
        y.offer(0, 6);
        y.commit(0);
        y.take(0);
        y.off(2);
        for (int i = 0; i < due.length; i++) {
            Check.due("of the layer " + (-1 - i), y.fired(i), due[i]);
        }
    }

    private static void offers() {
        Check.says(0, "Work is offered, in a transaction, as the value of the STAMPED key (-5, 0);");
        Check.says(29, "Offers work.");
        Check.says(29, "`transaction`: 0 to 3");
        Check.says(29, "`value`: 0 to 1000000");
        Keyterrace x = new Keyterrace();
        x.pass(3);
        for (int t = 0; t <= 3; t++) {
            x.begin(t, false);
            Check.due("offer", x.offer(t, t == 0 ? 0 : 1000000), 1);
            Check.due("it is not seen", x.range(t, -5, A, true), 0);
        }
        Check.noArgument("-1", () -> x.offer(0, -1));
        Check.noArgument("1000001", () -> x.offer(0, 1000001));
        Check.due("commit", x.commit(0), 4);
        Check.due("0", x.value(4, -5, 4, A), 0);
        Check.due("not as it is told", x.value(4, -5, 0, A), N);
        Check.due("another one has read the range", x.commit(1), Keyterrace.CONFLICT);
        x.begin(1, false);
        x.offer(1, 1000000);
        x.begin(2, false);
        x.offer(2, 5);
        Check.due("commit", x.commit(1), 5);
        Check.due("offers never conflict", x.commit(2), 6);
        Check.due("1000000", x.value(6, -5, 5, A), 1000000);
        Check.due("5", x.value(6, -5, 6, A), 5);
        Check.says(0, "of several in a transaction the last one stays.");
        x.begin(0, false);
        Check.due("one", x.offer(0, 7), 1);
        Check.due("two", x.offer(0, 9), 2);
        Check.due("three", x.offer(0, 8), 3);
        x.commit(0);
        x.begin(0, false);
        Check.due("one of them", x.range(0, -5, A, true), 4);
        Check.due("the last one", x.get(0, -5, 7, A, true), 8);
    }

    private static void taken() {
        Check.says(0, "A worker, 0 to 2, takes the first work, by keys, that nobody has: by one commit the key (-7, the second "
            + "number of that) is set to 10000 times the worker, and 10 more than the version of this commit, together;");
        Check.says(30, "Takes work.");
        Check.says(30, "`worker`: 0 to 2");
        Check.says(30, "Returns its value, NONE if there is none.");
        Keyterrace x = new Keyterrace();
        for (int worker = 0; worker <= 2; worker++) {
            Check.due("there is none", x.take(worker), N);
        }
        Check.due("no commit", x.version(), 0);
        for (int i = 1; i <= 4; i++) {
            States.offered(x, i - 1);
        }
        x.begin(0, false);
        x.get(0, -7, 1, A, true);
        x.change(0, SET, 1, A, A, 1);
        x.begin(1, false);
        x.get(1, -5, 1, A, true);
        x.change(1, SET, 2, A, A, 1);
        Check.noPlace("-1", () -> x.take(-1));
        Check.noPlace("3", () -> x.take(3));
        Check.due("the first", x.take(2), 0);
        Check.due("by one commit", x.version(), 5);
        Check.due("its lease", x.value(5, -7, 1, A), 20015);
        Check.due("the work stays", x.value(5, -5, 1, A), 0);
        Check.due("the lease is changed", x.commit(0), Keyterrace.CONFLICT);
        Check.due("the work is not", x.commit(1), 6);
        Check.due("the next one", x.take(0), 1);
        Check.due("its lease", x.value(7, -7, 2, A), 17);
        Check.due("the third", x.take(1), 2);
        Check.due("its lease", x.value(8, -7, 3, A), 10018);
        Check.due("the last one, by one who has another", x.take(1), 3);
        Check.due("its lease", x.value(9, -7, 4, A), 10019);
        Check.due("none", x.take(0), N);
        Check.due("no commit", x.version(), 9);
        States.offered(x, 50);
        Check.due("a new one", x.take(0), 50);
    }

    private static void leases() {
        Check.says(0, "as long as the version of now is below the latter, they have it.");
        Keyterrace x = new Keyterrace();
        States.offered(x, 5);
        x.take(0);
        Check.due("its lease, of version 2", x.value(2, -7, 1, A), 12);
        x.pass(9);
        Check.due("11 is below 12", x.take(1), N);
        Check.due("they have it", x.finish(0), 5);
        Keyterrace y = new Keyterrace();
        States.offered(y, 5);
        y.take(0);
        y.pass(10);
        Check.due("12 is not below 12", y.finish(0), N);
        Check.due("no commit", y.version(), 12);
        Check.due("nobody has it", y.take(1), 5);
        Check.due("a new lease", y.value(13, -7, 1, A), 10023);
        Check.due("not who had it", y.finish(0), N);
        Check.due("who has it", y.finish(1), 5);
        Keyterrace z = new Keyterrace();
        States.offered(z, 5);
        z.take(2);
        z.recover();
        Check.due("over by a recovery", z.finish(2), N);
        Check.due("who had it may take it again", z.take(2), 5);
        Check.due("a new lease", z.value(13, -7, 1, A), 20023);
        Keyterrace w = new Keyterrace();
        States.offered(w, 5);
        States.offered(w, 6);
        w.take(0);
        w.pass(5);
        w.take(1);
        w.pass(4);
        Check.due("3 and 10 is 13: the first is free", w.take(2), 5);
        Check.due("the second is not", w.take(2), N);
    }

    private static void finished() {
        Check.says(0, "To finish the first one that they have is to clear both keys, by one commit.");
        Check.says(31, "Finishes work.");
        Check.says(31, "`worker`: 0 to 2");
        Check.says(31, "Returns its value, NONE if they have none.");
        Keyterrace x = new Keyterrace();
        Check.noPlace("-1", () -> x.finish(-1));
        Check.noPlace("3", () -> x.finish(3));
        for (int worker = 0; worker <= 2; worker++) {
            Check.due("they have none", x.finish(worker), N);
        }
        Check.due("no commit", x.version(), 0);
        for (int i = 1; i <= 4; i++) {
            States.offered(x, i - 1);
        }
        x.take(1);
        x.take(0);
        x.take(1);
        x.watch(-5, 1, A);
        x.watch(-7, 1, A);
        x.watch(-7, 2, A);
        Check.due("what is not theirs", x.finish(2), N);
        Check.due("the first one, of the value 0", x.finish(1), 0);
        Check.due("by one commit", x.version(), 8);
        Check.due("the work is cleared", x.fired(0), 8);
        Check.due("its lease, too", x.fired(1), 8);
        Check.due("not that of another one", x.fired(2), N);
        Check.due("no value", x.value(8, -5, 1, A), N);
        Check.due("no value", x.value(8, -7, 1, A), N);
        Check.due("the second one", x.finish(1), 2);
        Check.due("no third one", x.finish(1), N);
        Check.due("no commit", x.version(), 9);
        Check.due("that of another one", x.finish(0), 1);
        Check.due("what nobody had is left", x.take(0), 3);
        Check.due("finish", x.finish(0), 3);
        Check.due("none is left", x.take(0), N);
        Check.due("no key has a value", x.part(0, 1), 0);
    }

    public static void main(String[] args) {
        twentyWatches();
        fired();
        offers();
        taken();
        leases();
        finished();
        Check.end();
    }
}
