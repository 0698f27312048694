/** Promises 27 to 35: watches, work, parts, marks. */
public final class LayersTest {
    private static final int A = Keyterrace.ABSENT, N = Keyterrace.NONE;
    private static final int SET = Keyterrace.SET, CLEARED = Keyterrace.CLEARED, ADDED = Keyterrace.ADDED;

    private static int changed(Keyterrace x, int kind, int a, int b, int value) {
        x.begin(3, false);
        x.change(3, kind, a, b, A, value);
        return x.commit(3);
    }

    /** Sets keys (a, from) to (a, to) by one commit. */
    private static void fill(Keyterrace x, int a, int from, int to) {
        x.begin(3, false);
        for (int b = from; b <= to; b++) {
            x.change(3, SET, a, b, A, 1);
        }
        x.commit(3);
    }

    private static void watch() {
        Keyterrace x = new Keyterrace();
        Check.noArgument("no key", () -> x.watch(1, A, 1));
        Check.noArgument("no key", () -> x.watch(A, A, A));
        Check.noPlace("fired(0)", () -> x.fired(0));
        Check.due("watch", x.watch(1, 1, A), 0);
        Check.due("watch", x.watch(1, 2, A), 1);
        Check.due("watch a layer", x.watch(-6, 0, A), 2);
        changed(x, SET, 1, 1, 5);
        Check.due("it has a value", x.fired(0), 1);
        Check.due("not the other", x.fired(1), N);
        Check.due("watch again", x.watch(1, 1, A), 3);
        changed(x, SET, 1, 1, 5);
        changed(x, ADDED, 1, 1, 0);
        Check.due("the same value", x.fired(3), N);
        changed(x, SET, 1, 1, 6);
        Check.due("another value", x.fired(3), 4);
        changed(x, SET, 1, 1, 5);
        Check.due("the first commit", x.fired(3), 4);
        x.off(0);
        Check.due("by a commit of a layer", x.fired(2), 6);
        x.begin(0, false);
        x.change(0, SET, 1, 2, A, 1);
        x.change(0, CLEARED, 1, 2, A, 1);
        x.commit(0);
        Check.due("in one commit to and fro", x.fired(1), N);
        x.begin(0, false);
        x.change(0, SET, 1, 2, A, 1);
        x.lose(false);
        x.commit(0);
        Check.due("not done", x.fired(1), N);
        x.lose(true);
        x.commit(0);
        Check.due("done", x.fired(1), 8);
        x.watch(1, 2, A);
        x.begin(0, false);
        x.clear(0, 1, A);
        x.commit(0);
        Check.due("a range cleared", x.fired(4), 9);
        for (int i = 5; i < 20; i++) {
            Check.due("watch", x.watch(7, A, A), i);
        }
        Check.noState("the 21st", () -> x.watch(7, A, A));
        Check.noArgument("no key ahead of that", () -> x.watch(7, A, 7));
        Check.noPlace("fired(20)", () -> x.fired(20));
        Check.noPlace("fired(-1)", () -> x.fired(-1));
        Check.due("not fired", x.fired(19), N);
    }

    private static void work() {
        Keyterrace x = new Keyterrace();
        Check.noPlace("no transaction", () -> x.offer(4, -1));
        Check.noArgument("value -1, ahead of not begun", () -> x.offer(0, -1));
        Check.noArgument("value 1000001", () -> x.offer(0, 1000001));
        Check.noState("not begun", () -> x.offer(0, 0));
        Check.noPlace("take(3)", () -> x.take(3));
        Check.noPlace("take(-1)", () -> x.take(-1));
        Check.noPlace("finish(3)", () -> x.finish(3));
        Check.noPlace("finish(-1)", () -> x.finish(-1));
        Check.due("none", x.take(0), N);
        x.begin(0, false);
        for (int i = 1; i <= 12; i++) {
            Check.due("offer", x.offer(0, 1000000), i);
        }
        Check.noState("the 13th", () -> x.offer(0, 0));
        x.commit(0);
        Check.due("the key", x.value(1, -5, 1, A), 1000000);
        x.begin(0, false);
        x.offer(0, 5);
        x.offer(0, 0);
        x.commit(0);
        Check.due("the last one", x.value(2, -5, 2, A), 0);
        Check.due("the first work", x.take(2), 1000000);
        Check.due("its lease", x.value(3, -7, 1, A), 20013);
        Check.due("the next", x.take(2), 0);
        Check.due("no more", x.take(2), N);
        Check.due("no commit by that", x.version(), 4);
        Check.due("another one has none", x.finish(1), N);
        x.pass(8);
        Check.due("as long as it is below", x.take(1), N);
        x.pass(1);
        Check.due("the lease is over at 13", x.take(1), 1000000);
        Check.due("the first one that they have", x.finish(2), N);
    }

    private static void finish() {
        Keyterrace x = new Keyterrace();
        for (int i = 1; i <= 3; i++) {
            x.begin(0, false);
            x.offer(0, 10 * i);
            x.commit(0);
        }
        x.watch(-7, 1, A);
        x.watch(-5, 2, A);
        x.take(0);
        x.take(1);
        x.take(1);
        Check.due("a watch fired by a lease", x.fired(0), 4);
        Check.due("6 keys", x.part(0, 1), 6);
        Check.due("the first of the worker 1", x.finish(1), 20);
        Check.due("by one commit", x.version(), 7);
        Check.due("a watch fired by it", x.fired(1), 7);
        Check.due("4 keys", x.part(0, 1), 4);
        Check.due("the work is gone", x.value(7, -5, 2, A), N);
        Check.due("the lease, too", x.value(7, -7, 2, A), N);
        Check.due("the second", x.finish(1), 30);
        Check.due("no third", x.finish(1), N);
        x.pass(5);
        Check.due("13: not over", x.finish(0), 10);
        x.recover();
        Check.due("none", x.take(0), N);
        x.begin(0, false);
        x.offer(0, 40);
        x.commit(0);
        x.take(0);
        x.recover();
        Check.due("over by a recovery", x.finish(0), N);
        Check.due("free", x.take(1), 40);
    }

    private static void parts() {
        Keyterrace x = new Keyterrace();
        Check.due("one part", x.parts(), 1);
        Check.due("of the server 0", x.part(0, 0), 0);
        Check.due("without keys", x.part(0, 1), 0);
        Check.due("no beginning", x.part(0, 2), N);
        Check.due("no beginning", x.part(0, 4), N);
        Check.noPlace("no place, ahead of what", () -> x.part(1, 5));
        Check.noPlace("place -1", () -> x.part(-1, 0));
        Check.noArgument("what 5", () -> x.part(0, 5));
        Check.noArgument("what -1", () -> x.part(0, -1));
        fill(x, 1, 1, 8);
        Check.due("8 are not more than 8", x.parts(), 1);
        Check.due("their number", x.part(0, 1), 8);
        fill(x, 1, 9, 9);
        Check.due("split", x.parts(), 2);
        Check.due("ahead of the fifth", x.part(1, 3), 5);
        Check.due("its first number", x.part(1, 2), 1);
        Check.due("no third", x.part(1, 4), A);
        Check.due("4 there", x.part(0, 1), 4);
        Check.due("5 behind", x.part(1, 1), 5);
        Check.due("of the server 1", x.part(1, 0), 1);
        Check.due("no beginning of the first", x.part(0, 3), N);
        fill(x, 1, 10, 20);
        Check.due("two more", x.parts(), 4);
        Check.due("the server 2", x.part(2, 0), 2);
        Check.due("the lowest of all", x.part(3, 0), 0);
        Check.due("the rest", x.part(3, 1), 8);
        fill(x, 0, 1, 5);
        Check.due("one in front", x.parts(), 5);
        Check.due("of the lowest with the fewest", x.part(1, 0), 1);
        Check.due("where it begins", x.part(1, 2) * 1000 + x.part(1, 3), 5);
        x.pass(1);
        Check.due("as before", x.part(1, 1), 5);
    }

    private static void join() {
        Keyterrace x = new Keyterrace();
        fill(x, 1, 1, 12);
        fill(x, 1, 13, 16);
        Check.due("three parts", x.parts(), 3);
        x.begin(0, false);
        for (int b = 2; b <= 7; b++) {
            x.change(0, CLEARED, 1, b, A, 0);
        }
        x.commit(0);
        Check.due("1 and 1 are joined", x.parts(), 2);
        Check.due("of the server of the first one", x.part(0, 0), 0);
        Check.due("2 together", x.part(0, 1), 2);
        Check.due("the next begins where it began", x.part(1, 3), 9);
        fill(x, 1, 2, 8);
        Check.due("8 again", x.part(0, 1), 8);
        x.begin(0, false);
        x.clear(0, 1, A);
        x.commit(0);
        Check.due("all are joined", x.parts(), 1);
        Check.due("none left", x.part(0, 1), 0);
        fill(x, 1, 1, 12);
        Check.due("split once more", x.parts(), 2);
        Check.due("the server 1 has none", x.part(1, 0), 1);
        x.begin(0, false);
        x.clear(0, 1, 1);
        x.clear(0, 1, 2);
        for (int b = 5; b <= 11; b++) {
            x.change(0, CLEARED, 1, b, A, 0);
        }
        x.commit(0);
        Check.due("2 and 1 are fewer than 4", x.parts(), 1);
        fill(x, 1, 1, 2);
        fill(x, 1, 5, 8);
        Check.due("9 in one", x.parts(), 2);
        x.begin(0, false);
        x.change(0, CLEARED, 1, 1, A, 0);
        x.change(0, CLEARED, 1, 2, A, 0);
        x.change(0, CLEARED, 1, 7, A, 0);
        x.change(0, CLEARED, 1, 8, A, 0);
        x.change(0, CLEARED, 1, 12, A, 0);
        x.commit(0);
        Check.due("2 and 2 are 4", x.parts(), 2);
    }

    private static void marks() {
        Keyterrace x = new Keyterrace();
        Check.noPlace("no mark", () -> x.bringBack(0));
        Check.due("mark", x.mark(), 0);
        Check.due("nothing to change", x.bringBack(0), 0);
        Check.due("no commit", x.version(), 0);
        fill(x, 1, 1, 3);
        x.begin(0, false);
        x.save(0, 1, 7);
        x.offer(0, 9);
        x.commit(0);
        x.take(1);
        x.pass(1);
        Check.due("mark", x.mark(), 1);
        changed(x, CLEARED, 1, 1, 0);
        changed(x, SET, 1, 2, 8);
        changed(x, SET, 1, 4, 8);
        x.finish(1);
        x.begin(0, false);
        x.get(0, 1, 4, A, true);
        x.change(0, SET, 2, A, A, 1);
        x.begin(1, false);
        x.get(1, 1, 3, A, true);
        x.change(1, SET, 2, A, A, 1);
        x.watch(1, 1, A);
        x.watch(1, 3, A);
        int at = x.version();
        Check.due("three keys, the work, and its lease", x.bringBack(1), 5);
        Check.due("one commit", x.version(), at + 1);
        Check.due("set", x.value(at + 1, 1, 1, A), 1);
        Check.due("as it was", x.value(at + 1, 1, 2, A), 1);
        Check.due("cleared", x.value(at + 1, 1, 4, A), N);
        Check.due("the work has its lease again", x.take(0), N);
        Check.due("it can be finished", x.finish(1), 9);
        Check.due("fired", x.fired(0), at + 1);
        Check.due("not this one", x.fired(1), N);
        Check.due("a key that is changed", x.commit(0), Keyterrace.CONFLICT);
        Check.due("one that is not", x.commit(1), at + 3);
        Check.due("all to nothing", x.bringBack(0), 8);
        x.begin(0, false);
        Check.due("nothing", x.range(0, A, A, true), 0);
        for (int i = 2; i < 10; i++) {
            Check.due("mark", x.mark(), i);
        }
        Check.noState("the 11th", () -> x.mark());
        Check.noPlace("bringBack(10)", () -> x.bringBack(10));
        Check.noPlace("bringBack(-1)", () -> x.bringBack(-1));
    }

    private static void manyBroughtBack() {
        Keyterrace x = new Keyterrace();
        x.mark();
        for (int a = 10; a < 14; a++) {
            fill(x, a, 0, 9);
        }
        x.mark();
        Check.due("parts", x.parts(), 9);
        Check.due("to nothing", x.bringBack(0), 40);
        Check.due("one part", x.parts(), 1);
        Check.due("and back", x.bringBack(1), 40);
        Check.due("split by one commit", x.parts(), 9);
        for (int i = 0; i < 9; i++) {
            Check.due("servers in turn", x.part(i, 0), i % 3);
            Check.due("four each, and the rest", x.part(i, 1), i < 8 ? 4 : 8);
        }
    }

    public static void main(String[] args) {
        watch();
        work();
        finish();
        parts();
        join();
        marks();
        manyBroughtBack();
        Check.end();
    }
}
