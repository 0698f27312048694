/** All refused calls: with the exception that is documented first, in each state, and nothing is changed by them. */
public final class RefusalsTest {
    private static final int A = Keyterrace.ABSENT, N = Keyterrace.NONE, MAX = Integer.MAX_VALUE;
    private static final int SET = Keyterrace.SET, CLEARED = Keyterrace.CLEARED, ADDED = Keyterrace.ADDED;
    private static final int STAMPED_VALUE = Keyterrace.STAMPED_VALUE, STAMPED_KEY = Keyterrace.STAMPED_KEY;
    private static final int[][] NO_KEYS = {{A, A, A}, {A, 1, A}, {A, A, 1}, {A, 1, 1}, {1, A, 1}, {-1000, A, A},
        {10001, A, A}, {N, A, A}, {MAX, A, A}, {1, -1000, A}, {1, 10001, A}, {1, N, A}, {1, MAX, A}, {1, 1, -1000},
        {1, 1, 10001}, {1, 1, N}, {1, 1, MAX}, {1, A, -1000}, {-1000, -1000, -1000}};
    private static final int[][] NO_RANGES = {{A, 1}, {A, -999}, {A, 9999}, {-1000, A}, {10001, A}, {N, A}, {MAX, A},
        {1, -1000}, {1, 10001}, {1, N}, {1, MAX}, {A, -1000}};
    private static final int[] NO_TRANSACTIONS = {-1, 4, N, MAX};

    private static int refusals = 0;

    private static void refused(Class<? extends RuntimeException> due, Twins.Making making, Twins.Calls... calls) {
        Keyterrace x = making.make();
        for (int i = 0; i < calls.length; i++) {
            Twins.Calls call = calls[i];
            refusals++;
            Check.fails("refusal " + refusals + " (" + i + " of its row)", due, () -> call.on(x));
        }
        Twins.stayAlike("the row of refusal " + refusals, making, y -> {
            for (Twins.Calls call : calls) {
                try {
                    call.on(y);
                } catch (RuntimeException e) {
                    continue;
                }
            }
        });
    }

    /** In all states: this comes ahead of what the state may refuse. */
    private static void noPlace(Twins.Calls... calls) {
        refused(IndexOutOfBoundsException.class, States::fresh, calls);
        refused(IndexOutOfBoundsException.class, States::busy, calls);
        refused(IndexOutOfBoundsException.class, States::full, calls);
    }

    /** In all states: this comes ahead of what the state may refuse. */
    private static void noArgument(Twins.Calls... calls) {
        refused(IllegalArgumentException.class, States::fresh, calls);
        refused(IllegalArgumentException.class, States::busy, calls);
        refused(IllegalArgumentException.class, States::full, calls);
    }

    private static void noState(Twins.Making making, Twins.Calls... calls) {
        refused(IllegalStateException.class, making, calls);
    }

    private static void begin() {
        Check.says(2, "Throws `IndexOutOfBoundsException` if there is no such transaction");
        for (int t : NO_TRANSACTIONS) {
            noPlace(x -> x.begin(t, false), x -> x.begin(t, true));
        }
    }

    private static void get() {
        Check.says(3, "Throws `IndexOutOfBoundsException` if there is no such transaction");
        for (int t : NO_TRANSACTIONS) {
            noPlace(x -> x.get(t, 1, 1, A, true), x -> x.get(t, A, A, A, true), x -> x.get(t, 1, A, 1, false));
        }
        Check.says(3, "Throws `IllegalArgumentException` if that is no key");
        for (int[] k : NO_KEYS) {
            noArgument(x -> x.get(0, k[0], k[1], k[2], true), x -> x.get(3, k[0], k[1], k[2], false));
        }
        Check.says(3, "Throws `IllegalStateException` if it is over, or the value is STAMPED");
        noState(States::fresh, x -> x.get(0, 1, 1, A, true), x -> x.get(3, 1, 1, A, false));
        noState(States::busy, x -> x.get(2, 1, 1, A, true), x -> x.get(3, 1, 1, A, true),
            x -> x.get(0, 1, 5, A, true), x -> x.get(0, 1, 5, A, false));
        noState(States::full, x -> x.get(2, 1, 1, A, true), x -> x.get(3, 1, 1, A, true),
            x -> x.get(0, 1, 1, A, true), x -> x.get(0, 1, 1, A, false));
    }

    private static void range() {
        Check.says(4, "Throws `IndexOutOfBoundsException` if there is no such transaction");
        for (int t : NO_TRANSACTIONS) {
            noPlace(x -> x.range(t, 1, A, true), x -> x.range(t, A, 1, true), x -> x.range(t, 1, -1000, false));
        }
        Check.says(4, "Throws `IllegalArgumentException` if a or b is out of range");
        for (int[] r : NO_RANGES) {
            noArgument(x -> x.range(0, r[0], r[1], true), x -> x.range(3, r[0], r[1], false));
        }
        Check.says(4, "Throws `IllegalStateException` if it is over");
        noState(States::fresh, x -> x.range(0, 1, A, true), x -> x.range(3, A, A, false));
        noState(States::busy, x -> x.range(2, 1, A, true), x -> x.range(3, A, A, true));
        noState(States::full, x -> x.range(2, 1, A, true), x -> x.range(3, A, A, true));
    }

    private static void rangeAt() {
        Check.says(5, "Throws `IndexOutOfBoundsException` if there is no such transaction, or place is below 0");
        for (int t : NO_TRANSACTIONS) {
            noPlace(x -> x.rangeAt(t, 1, A, 0, 0), x -> x.rangeAt(t, A, 1, 0, 0), x -> x.rangeAt(t, 1, A, 0, 3));
        }
        noPlace(x -> x.rangeAt(0, 1, A, -1, 0), x -> x.rangeAt(0, 1, A, N, 0), x -> x.rangeAt(0, A, 1, -1, 0),
            x -> x.rangeAt(0, 1, A, -1, 3), x -> x.rangeAt(3, 1, A, -1, 2));
        Check.says(5, "Throws `IllegalArgumentException` if a, b or what is out of range");
        for (int[] r : NO_RANGES) {
            noArgument(x -> x.rangeAt(0, r[0], r[1], 0, 0), x -> x.rangeAt(3, r[0], r[1], MAX, 2));
        }
        for (int what : new int[] {-1, 3, N, MAX}) {
            noArgument(x -> x.rangeAt(0, 1, A, 0, what), x -> x.rangeAt(3, A, A, MAX, what));
        }
        Check.says(5, "Throws `IllegalStateException` if it is over");
        noState(States::fresh, x -> x.rangeAt(0, 1, A, 0, 0), x -> x.rangeAt(3, A, A, 9, 2));
        noState(States::busy, x -> x.rangeAt(2, 1, A, 0, 0), x -> x.rangeAt(3, A, A, 0, 0));
        noState(States::full, x -> x.rangeAt(2, 1, A, 0, 0), x -> x.rangeAt(3, A, A, 0, 0));
    }

    private static void change() {
        Check.says(6, "Throws `IndexOutOfBoundsException` if there is no such transaction");
        for (int t : NO_TRANSACTIONS) {
            noPlace(x -> x.change(t, SET, 1, 1, A, 1), x -> x.change(t, 7, 1, 1, A, 1),
                x -> x.change(t, SET, A, A, A, 1), x -> x.change(t, SET, 1, 1, A, MAX),
                x -> x.change(t, SET, -3, 1, A, 1));
        }
        Check.says(6, "Throws `IllegalArgumentException` if kind or value is out of range, that is no key, or its first "
            + "number is -7 to -1");
        for (int kind : new int[] {-1, 7, N, MAX}) {
            noArgument(x -> x.change(0, kind, 1, 1, A, 1), x -> x.change(3, kind, 1, 1, A, 1));
        }
        for (int kind : new int[] {SET, ADDED, Keyterrace.MOST, Keyterrace.LEAST, STAMPED_KEY}) {
            noArgument(x -> x.change(0, kind, 1, 1, A, 1000001), x -> x.change(0, kind, 1, 1, A, -1000001),
                x -> x.change(3, kind, 1, 1, A, N), x -> x.change(3, kind, 1, 1, A, MAX));
        }
        for (int[] k : NO_KEYS) {
            noArgument(x -> x.change(0, SET, k[0], k[1], k[2], 1), x -> x.change(0, CLEARED, k[0], k[1], k[2], 1),
                x -> x.change(3, STAMPED_KEY, k[0], k[1], k[2], 1));
        }
        for (int a = -7; a <= -1; a++) {
            int layer = a;
            noArgument(x -> x.change(0, SET, layer, A, A, 1), x -> x.change(0, CLEARED, layer, 1, A, 1),
                x -> x.change(0, ADDED, layer, 1, 1, 1), x -> x.change(0, Keyterrace.MOST, layer, 1, A, 1),
                x -> x.change(0, Keyterrace.LEAST, layer, 1, A, 1), x -> x.change(0, STAMPED_VALUE, layer, 1, A, 1),
                x -> x.change(3, STAMPED_KEY, layer, A, A, 1));
        }
        Check.says(6, "Throws `IllegalStateException` if it is over, or it keeps 12 or more");
        noState(States::fresh, x -> x.change(0, SET, 1, 1, A, 1), x -> x.change(3, CLEARED, 1, 1, A, 1));
        noState(States::busy, x -> x.change(2, SET, 1, 1, A, 1), x -> x.change(3, SET, 1, 1, A, 1));
        noState(States::full, x -> x.change(2, SET, 1, 1, A, 1), x -> x.change(3, SET, 1, 1, A, 1),
            x -> x.change(0, SET, 1, 1, A, 1), x -> x.change(0, CLEARED, 9, 9, A, 1),
            x -> x.change(1, STAMPED_KEY, 1, 1, A, 1), x -> x.change(1, STAMPED_VALUE, 1, 1, A, 1));
    }

    private static void clear() {
        Check.says(7, "Throws `IndexOutOfBoundsException` if there is no such transaction");
        for (int t : NO_TRANSACTIONS) {
            noPlace(x -> x.clear(t, 1, A), x -> x.clear(t, A, A), x -> x.clear(t, -1, A), x -> x.clear(t, 1, 10001));
        }
        Check.says(7, "Throws `IllegalArgumentException` if a or b is out of range");
        for (int[] r : NO_RANGES) {
            noArgument(x -> x.clear(0, r[0], r[1]), x -> x.clear(3, r[0], r[1]));
        }
        noArgument(x -> x.clear(0, A, A), x -> x.clear(3, A, A));
        for (int a = -7; a <= -1; a++) {
            int layer = a;
            noArgument(x -> x.clear(0, layer, A), x -> x.clear(0, layer, 1), x -> x.clear(3, layer, A));
        }
        Check.says(7, "Throws `IllegalStateException` if it is over, or it keeps 12 or more");
        noState(States::fresh, x -> x.clear(0, 1, A), x -> x.clear(3, 1, 1));
        noState(States::busy, x -> x.clear(2, 1, A), x -> x.clear(3, 1, 1));
        noState(States::full, x -> x.clear(2, 1, A), x -> x.clear(3, 1, 1), x -> x.clear(0, 1, A),
            x -> x.clear(1, 1, 1));
    }

    private static void commit() {
        Check.says(8, "Throws `IndexOutOfBoundsException` if there is no such transaction");
        for (int t : NO_TRANSACTIONS) {
            noPlace(x -> x.commit(t));
        }
        Check.says(8, "Throws `IllegalStateException` if it is over");
        noState(States::fresh, x -> x.commit(0), x -> x.commit(1), x -> x.commit(2), x -> x.commit(3));
        noState(States::busy, x -> x.commit(2), x -> x.commit(3));
        noState(States::full, x -> x.commit(2), x -> x.commit(3));
    }

    private static void versions() {
        Check.says(12, "Throws `IllegalArgumentException` if many is out of range");
        noArgument(x -> x.pass(0), x -> x.pass(11), x -> x.pass(-1), x -> x.pass(N), x -> x.pass(MAX));
        Check.says(13, "Throws `IllegalArgumentException` if version is out of range, or that is no key");
        noArgument(x -> x.value(-1, 1, 1, A), x -> x.value(x.version() + 1, 1, 1, A), x -> x.value(N, 1, 1, A),
            x -> x.value(MAX, 1, 1, A), x -> x.value(-1, A, A, A));
        for (int[] k : NO_KEYS) {
            noArgument(x -> x.value(0, k[0], k[1], k[2]), x -> x.value(x.version(), k[0], k[1], k[2]));
        }
        Check.says(14, "Throws `IndexOutOfBoundsException` if place is below 0");
        noPlace(x -> x.packed(1, 1, A, -1), x -> x.packed(1, 1, A, N), x -> x.packed(A, A, A, -1),
            x -> x.packed(1, A, 1, -1));
        Check.says(14, "Throws `IllegalArgumentException` if that is no key");
        for (int[] k : NO_KEYS) {
            noArgument(x -> x.packed(k[0], k[1], k[2], 0), x -> x.packed(k[0], k[1], k[2], MAX));
        }
    }

    private static void makeDirectories() {
        Check.says(16, "Throws `IndexOutOfBoundsException` if there is no such directory");
        noPlace(x -> x.directory(-1, 0), x -> x.directory(10, 0), x -> x.directory(N, 0), x -> x.directory(MAX, 0),
            x -> x.directory(10, -1), x -> x.directory(-1, 10));
        refused(IndexOutOfBoundsException.class, States::fresh, x -> x.directory(1, 0));
        refused(IndexOutOfBoundsException.class, States::busy, x -> x.directory(4, 0));
        Check.says(16, "Throws `IllegalArgumentException` if name is out of range");
        noArgument(x -> x.directory(0, -1), x -> x.directory(0, 10), x -> x.directory(0, N),
            x -> x.directory(0, MAX));
        Check.says(16, "Throws `IllegalStateException` if the parent has that name, or there are 9 besides the "
            + "directory 0");
        noState(States::busy, x -> x.directory(0, 1), x -> x.directory(0, 3), x -> x.directory(1, 2));
        noState(States::full, x -> x.directory(0, 9), x -> x.directory(9, 0), x -> x.directory(0, 0));
    }

    private static void moveDirectories() {
        Check.says(17, "Throws `IndexOutOfBoundsException` if there is no such directory, of either");
        noPlace(x -> x.move(10, 0, 1), x -> x.move(-1, 0, 1), x -> x.move(0, 10, 1), x -> x.move(0, -1, 1),
            x -> x.move(N, MAX, 1), x -> x.move(10, 0, 10), x -> x.move(0, 10, -1));
        refused(IndexOutOfBoundsException.class, States::busy, x -> x.move(4, 0, 1), x -> x.move(1, 4, 1),
            x -> x.move(1, 4, 10));
        Check.says(17, "Throws `IllegalArgumentException` if name is out of range");
        noArgument(x -> x.move(0, 0, -1), x -> x.move(0, 0, 10), x -> x.move(0, 0, N), x -> x.move(0, 0, MAX));
        refused(IllegalArgumentException.class, States::busy, x -> x.move(1, 0, 10), x -> x.move(1, 2, 10),
            x -> x.move(1, 1, -1));
        Check.says(17, "Throws `IllegalStateException` if it is the directory 0, the parent is it, or below it, or has "
            + "that name for another one");
        noState(States::fresh, x -> x.move(0, 0, 0), x -> x.move(0, 0, 9));
        noState(States::busy, x -> x.move(0, 0, 5), x -> x.move(0, 1, 5), x -> x.move(1, 1, 5),
            x -> x.move(1, 2, 5), x -> x.move(3, 0, 1), x -> x.move(3, 1, 2), x -> x.move(2, 0, 3));
        noState(States::full, x -> x.move(1, 1, 9), x -> x.move(1, 4, 9), x -> x.move(2, 7, 9),
            x -> x.move(9, 0, 0));
    }

    private static void otherDirectories() {
        Check.says(18, "Throws `IndexOutOfBoundsException` if there is no such directory");
        noPlace(x -> x.remove(-1), x -> x.remove(10), x -> x.remove(N), x -> x.remove(MAX));
        refused(IndexOutOfBoundsException.class, States::fresh, x -> x.remove(1));
        refused(IndexOutOfBoundsException.class, States::busy, x -> x.remove(4));
        Check.says(18, "Throws `IllegalStateException` if it is the directory 0");
        noState(States::fresh, x -> x.remove(0));
        noState(States::busy, x -> x.remove(0));
        noState(States::full, x -> x.remove(0));
        Check.says(19, "Throws `IndexOutOfBoundsException` if there is no such directory");
        noPlace(x -> x.shortName(-1), x -> x.shortName(10), x -> x.shortName(N), x -> x.shortName(MAX));
        refused(IndexOutOfBoundsException.class, States::fresh, x -> x.shortName(1));
        refused(IndexOutOfBoundsException.class, States::busy, x -> x.shortName(4));
        Check.says(20, "Throws `IndexOutOfBoundsException` if there is no such directory");
        noPlace(x -> x.named(-1, 0), x -> x.named(10, 0), x -> x.named(N, -1), x -> x.named(MAX, 10));
        refused(IndexOutOfBoundsException.class, States::fresh, x -> x.named(1, 0));
        refused(IndexOutOfBoundsException.class, States::busy, x -> x.named(4, 0));
        Check.says(20, "Throws `IllegalArgumentException` if name is out of range");
        noArgument(x -> x.named(0, -1), x -> x.named(0, 10), x -> x.named(0, N), x -> x.named(0, MAX));
    }

    private static void records() {
        Check.says(21, "Throws `IndexOutOfBoundsException` if there is no such transaction");
        Check.says(22, "Throws `IndexOutOfBoundsException` if there is no such transaction");
        for (int t : NO_TRANSACTIONS) {
            noPlace(x -> x.save(t, 1, 1), x -> x.save(t, 100, 1), x -> x.save(t, 1, -1));
            noPlace(x -> x.erase(t, 1), x -> x.erase(t, 100));
        }
        Check.says(21, "Throws `IllegalArgumentException` if number or field is out of range");
        Check.says(22, "Throws `IllegalArgumentException` if number is out of range");
        for (int n : new int[] {-1, 100, N, MAX}) {
            noArgument(x -> x.save(0, n, 1), x -> x.save(0, 1, n), x -> x.save(0, n, n), x -> x.save(3, n, 1));
            noArgument(x -> x.erase(0, n), x -> x.erase(3, n));
        }
        Check.says(21, "Throws `IllegalStateException` if it is over, or it keeps 12 changes or more");
        noState(States::fresh, x -> x.save(0, 1, 1), x -> x.save(3, 99, 99));
        noState(States::busy, x -> x.save(2, 1, 1), x -> x.save(3, 9, 9));
        noState(States::full, x -> x.save(2, 1, 1), x -> x.save(3, 1, 1), x -> x.save(0, 1, 1), x -> x.save(1, 2, 2));
        Check.says(22, "Throws `IllegalStateException` if it is over, or it keeps 12 changes or more");
        noState(States::fresh, x -> x.erase(0, 1), x -> x.erase(3, 99));
        noState(States::busy, x -> x.erase(2, 1), x -> x.erase(3, 9));
        noState(States::full, x -> x.erase(2, 1), x -> x.erase(3, 1), x -> x.erase(0, 1), x -> x.erase(1, 1));
    }

    private static Keyterrace built() {
        Keyterrace x = States.busy();
        x.build(1, 2);
        return x;
    }

    private static void indexes() {
        Check.says(23, "Throws `IndexOutOfBoundsException` if there is no such index");
        noPlace(x -> x.build(-1, 1), x -> x.build(3, 1), x -> x.build(N, 1), x -> x.build(MAX, 1),
            x -> x.build(3, 0), x -> x.build(-1, 21));
        Check.says(23, "Throws `IllegalArgumentException` if most is out of range");
        noArgument(x -> x.build(0, 0), x -> x.build(1, 21), x -> x.build(2, -1), x -> x.build(1, N),
            x -> x.build(1, MAX));
        Check.says(23, "Throws `IllegalStateException` if it is ON");
        noState(States::fresh, x -> x.build(0, 1), x -> x.build(1, 20), x -> x.build(2, 1));
        noState(States::busy, x -> x.build(0, 1), x -> x.build(0, 20));
        noState(RefusalsTest::built, x -> x.build(1, 1), x -> x.build(1, 20));
        Check.says(24, "Throws `IndexOutOfBoundsException` if there is no such index");
        noPlace(x -> x.off(-1), x -> x.off(3), x -> x.off(N), x -> x.off(MAX));
        Check.says(25, "Throws `IllegalArgumentException` if field is out of range");
        noArgument(x -> x.rank(-1), x -> x.rank(100), x -> x.rank(N), x -> x.rank(MAX));
        Check.says(26, "Throws `IllegalArgumentException` if field is out of range");
        noArgument(x -> x.rankAnew(-1), x -> x.rankAnew(100), x -> x.rankAnew(N), x -> x.rankAnew(MAX));
    }

    private static void watches() {
        Check.says(27, "Throws `IllegalArgumentException` if that is no key");
        for (int[] k : NO_KEYS) {
            noArgument(x -> x.watch(k[0], k[1], k[2]));
        }
        Check.says(27, "Throws `IllegalStateException` if there are 20");
        noState(States::full, x -> x.watch(1, 1, A), x -> x.watch(9, A, A));
        Check.says(28, "Throws `IndexOutOfBoundsException` if there is no such watch");
        noPlace(x -> x.fired(-1), x -> x.fired(20), x -> x.fired(N), x -> x.fired(MAX));
        refused(IndexOutOfBoundsException.class, States::fresh, x -> x.fired(0));
        refused(IndexOutOfBoundsException.class, States::busy, x -> x.fired(2));
    }

    private static void work() {
        Check.says(29, "Throws `IndexOutOfBoundsException` if there is no such transaction");
        for (int t : NO_TRANSACTIONS) {
            noPlace(x -> x.offer(t, 1), x -> x.offer(t, -1), x -> x.offer(t, 1000001));
        }
        Check.says(29, "Throws `IllegalArgumentException` if value is out of range");
        for (int value : new int[] {-1, 1000001, N, MAX}) {
            noArgument(x -> x.offer(0, value), x -> x.offer(1, value), x -> x.offer(3, value));
        }
        Check.says(29, "Throws `IllegalStateException` if it is over, or it keeps 12 or more");
        noState(States::fresh, x -> x.offer(0, 1), x -> x.offer(3, 0));
        noState(States::busy, x -> x.offer(2, 1), x -> x.offer(3, 0));
        noState(States::full, x -> x.offer(2, 1), x -> x.offer(3, 0), x -> x.offer(0, 1), x -> x.offer(1, 1));
        Check.says(30, "Throws `IndexOutOfBoundsException` if there is no such worker");
        noPlace(x -> x.take(-1), x -> x.take(3), x -> x.take(N), x -> x.take(MAX));
        Check.says(31, "Throws `IndexOutOfBoundsException` if there is no such worker");
        noPlace(x -> x.finish(-1), x -> x.finish(3), x -> x.finish(N), x -> x.finish(MAX));
    }

    private static void partsAndMarks() {
        Check.says(33, "Throws `IndexOutOfBoundsException` if there is no such place");
        noPlace(x -> x.part(-1, 0), x -> x.part(x.parts(), 0), x -> x.part(N, 0), x -> x.part(MAX, 0),
            x -> x.part(-1, 5), x -> x.part(x.parts(), -1));
        Check.says(33, "Throws `IllegalArgumentException` if what is out of range");
        noArgument(x -> x.part(0, -1), x -> x.part(0, 5), x -> x.part(0, N), x -> x.part(0, MAX));
        Check.says(34, "Throws `IllegalStateException` if there are 10");
        noState(States::full, x -> x.mark(), x -> x.mark());
        Check.says(35, "Throws `IndexOutOfBoundsException` if there is no such mark");
        noPlace(x -> x.bringBack(-1), x -> x.bringBack(10), x -> x.bringBack(N), x -> x.bringBack(MAX));
        refused(IndexOutOfBoundsException.class, States::fresh, x -> x.bringBack(0));
        refused(IndexOutOfBoundsException.class, States::busy, x -> x.bringBack(1));
    }

    /** One call that all three exceptions apply to, and what is left of it as its arguments come to be right. */
    private static void inOrder() {
        Check.says(0, "IndexOutOfBoundsException is thrown where there is no such transaction, directory, index, worker, "
            + "watch, or place");
        noPlace(x -> x.rangeAt(4, A, 1, -1, 3), x -> x.rangeAt(0, A, 1, -1, 3), x -> x.rangeAt(4, A, 1, 0, 3),
            x -> x.move(50, 50, 10), x -> x.build(3, 0), x -> x.take(3), x -> x.fired(20), x -> x.part(50, 5));
        Check.says(0, "IllegalArgumentException if another argument is out of range, or three numbers are no key.");
        noArgument(x -> x.rangeAt(0, A, 1, 0, 3), x -> x.rangeAt(3, 1, A, 0, 3), x -> x.rangeAt(3, A, 1, 0, 2),
            x -> x.watch(1, A, 1));
        Check.says(0, "A transaction that is over, or was not begun, is an IllegalStateException, behind these.");
        noState(States::fresh, x -> x.rangeAt(3, 1, A, 0, 2), x -> x.commit(3));
        noState(States::full, x -> x.rangeAt(2, 1, A, 0, 2), x -> x.rangeAt(3, 1, A, 0, 2), x -> x.commit(3));
        Check.says(0, "If several exceptions apply, the one that is documented first is thrown.");
        noPlace(x -> x.change(4, 7, A, 1, 1, N), x -> x.save(4, -1, 100), x -> x.offer(4, -1));
        noArgument(x -> x.change(3, 7, A, 1, 1, N), x -> x.save(3, -1, 100), x -> x.offer(3, -1),
            x -> x.directory(0, 10), x -> x.move(0, 0, 10), x -> x.watch(A, A, A));
        Check.says(0, "A method that throws an exception changes nothing.");
        noState(States::full, x -> x.mark(), x -> x.watch(1, 1, A), x -> x.directory(0, 9), x -> x.remove(0));
    }

    public static void main(String[] args) {
        begin();
        get();
        range();
        rangeAt();
        change();
        clear();
        commit();
        versions();
        makeDirectories();
        moveDirectories();
        otherDirectories();
        records();
        indexes();
        watches();
        work();
        partsAndMarks();
        inOrder();
        Check.end();
    }
}
