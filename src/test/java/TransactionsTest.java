/** Promises 2 to 15: transactions, one by one. */
public final class TransactionsTest {
    private static final int A = Keyterrace.ABSENT, N = Keyterrace.NONE;
    private static final int SET = Keyterrace.SET, CLEARED = Keyterrace.CLEARED, ADDED = Keyterrace.ADDED;
    private static final int MOST = Keyterrace.MOST, LEAST = Keyterrace.LEAST;
    private static final int STAMPED_VALUE = Keyterrace.STAMPED_VALUE, STAMPED_KEY = Keyterrace.STAMPED_KEY;
    private static final int CONFLICT = Keyterrace.CONFLICT, TOO_OLD = Keyterrace.TOO_OLD, LOST = Keyterrace.LOST;

    /** Sets a key by a commit of the transaction 3. */
    private static int put(Keyterrace x, int a, int b, int c, int value) {
        x.begin(3, false);
        x.change(3, SET, a, b, c, value);
        return x.commit(3);
    }

    private static int wipe(Keyterrace x, int a, int b) {
        x.begin(3, false);
        x.clear(3, a, b);
        return x.commit(3);
    }

    private static void begin() {
        Keyterrace x = new Keyterrace();
        Check.noPlace("begin(-1)", () -> x.begin(-1, false));
        Check.noPlace("begin(4)", () -> x.begin(4, true));
        Check.due("begin(3)", x.begin(3, false), 0);
        x.pass(7);
        Check.due("begin(0)", x.begin(0, false), 7);
        x.change(0, SET, 1, A, A, 5);
        Check.due("begin(0) again", x.begin(0, false), 7);
        Check.due("the one begun ahead is over", x.get(0, 1, A, A, true), N);
        Check.due("nothing to commit", x.commit(0), 7);
    }

    private static void get() {
        Keyterrace x = new Keyterrace();
        Check.noState("get not begun", () -> x.get(0, 1, A, A, true));
        Check.noArgument("no key ahead of not begun", () -> x.get(0, A, A, A, true));
        Check.noPlace("no transaction ahead of no key", () -> x.get(4, A, A, A, true));
        x.begin(0, false);
        Check.noArgument("get -1000", () -> x.get(0, 1, -1000, A, true));
        Check.noArgument("get 10001", () -> x.get(0, 1, 1, 10001, true));
        Check.noArgument("get a gap", () -> x.get(0, 1, A, 1, true));
        Check.noArgument("get MIN", () -> x.get(0, N, A, A, true));
        Check.due("get -999", x.get(0, -999, 9999, 0, true), N);
        put(x, 1, 2, A, 7);
        Check.due("get at its version", x.get(0, 1, 2, A, false), N);
        x.begin(0, false);
        Check.due("get behind it", x.get(0, 1, 2, A, false), 7);
        Check.due("another key", x.get(0, 1, 2, 0, false), N);
        x.change(0, STAMPED_VALUE, 1, 2, A, 0);
        Check.noState("get stamped", () -> x.get(0, 1, 2, A, true));
        x.change(0, MOST, 1, 2, A, 3);
        Check.noState("get stamped and more", () -> x.get(0, 1, 2, A, false));
        x.change(0, CLEARED, 1, 2, A, 0);
        Check.due("get cleared", x.get(0, 1, 2, A, true), N);
    }

    private static void whatIsSeen() {
        Keyterrace x = new Keyterrace();
        put(x, 1, 1, A, 10);
        x.begin(0, false);
        x.change(0, ADDED, 1, 1, A, -3);
        Check.due("ADDED to a value", x.get(0, 1, 1, A, true), 7);
        x.change(0, MOST, 1, 1, A, 6);
        Check.due("MOST of a value", x.get(0, 1, 1, A, true), 7);
        x.change(0, LEAST, 1, 1, A, -6);
        Check.due("LEAST of a value", x.get(0, 1, 1, A, true), -6);
        x.change(0, ADDED, 1, 2, A, -3);
        Check.due("ADDED to none", x.get(0, 1, 2, A, true), -3);
        x.change(0, MOST, 1, 3, A, -4);
        Check.due("MOST of none", x.get(0, 1, 3, A, true), -4);
        x.change(0, LEAST, 1, 4, A, 4);
        Check.due("LEAST of none", x.get(0, 1, 4, A, true), 4);
        x.clear(0, 1, A);
        Check.due("cleared", x.get(0, 1, 1, A, true), N);
        x.change(0, ADDED, 1, 1, A, 2);
        Check.due("ADDED to a cleared one", x.get(0, 1, 1, A, true), 2);
        x.change(0, STAMPED_KEY, 1, 1, A, 50);
        Check.due("STAMPED keys are not seen", x.range(0, 1, A, true), 1);
        Check.due("commit", x.commit(0), 2);
        Check.due("the stamped key", x.value(2, 1, 2, A), 50);
    }

    private static void range() {
        Keyterrace x = new Keyterrace();
        Check.noState("range not begun", () -> x.range(0, 1, A, true));
        Check.noArgument("range of a gap", () -> x.range(0, A, 1, true));
        Check.noArgument("range -1000", () -> x.range(0, -1000, A, true));
        Check.noArgument("range 10001", () -> x.range(0, 1, 10001, true));
        Check.noPlace("range of no transaction", () -> x.range(-1, A, 1, true));
        put(x, 1, A, A, 1);
        put(x, 1, 2, A, 1);
        put(x, 1, 2, 3, 1);
        put(x, 1, 3, A, 1);
        put(x, 2, A, A, 1);
        put(x, -999, A, A, 1);
        x.begin(0, false);
        Check.due("range (1)", x.range(0, 1, A, true), 4);
        Check.due("range (1, 2)", x.range(0, 1, 2, true), 2);
        Check.due("range of all", x.range(0, A, A, true), 6);
        Check.due("range without keys", x.range(0, 0, A, true), 0);
        x.change(0, STAMPED_VALUE, 1, 2, A, 0);
        Check.due("stamped values are not seen", x.range(0, 1, A, true), 3);
        x.change(0, ADDED, 1, 9, 9, 4);
        Check.due("added keys are seen", x.range(0, 1, A, false), 4);
        x.clear(0, 1, 2);
        Check.due("cleared ones are not", x.range(0, 1, A, false), 3);
        x.offer(0, 1);
        x.begin(1, false);
        x.offer(1, 1);
        x.commit(1);
        x.begin(2, false);
        Check.due("all keys have the layers in them", x.range(2, A, A, false), 7);
        Check.due("ranges of the layers", x.range(2, -5, A, false), 1);
    }

    private static void rangeAt() {
        Keyterrace x = new Keyterrace();
        put(x, 5, A, A, 1);
        put(x, 5, -7, A, 1);
        put(x, 5, -6, 9999, 1);
        put(x, 5, 0, -999, 1);
        put(x, -8, 1, A, 1);
        Check.noState("rangeAt not begun", () -> x.rangeAt(0, 5, A, 0, 0));
        Check.noArgument("what 3 ahead of not begun", () -> x.rangeAt(0, 5, A, 0, 3));
        Check.noArgument("what -1", () -> x.rangeAt(0, 5, A, 0, -1));
        Check.noArgument("no range", () -> x.rangeAt(0, A, 5, 0, 0));
        Check.noPlace("place -1 ahead of what 3", () -> x.rangeAt(0, A, 5, -1, 3));
        Check.noPlace("no transaction", () -> x.rangeAt(4, 5, A, 0, 0));
        x.begin(0, false);
        Check.due("the first of all", x.rangeAt(0, A, A, 0, 0), -8);
        Check.due("a beginning comes first", x.rangeAt(0, 5, A, 0, 1), A);
        Check.due("its third number", x.rangeAt(0, 5, A, 0, 2), A);
        Check.due("-7 ahead of -6", x.rangeAt(0, 5, A, 1, 1), -7);
        Check.due("-6 behind it", x.rangeAt(0, 5, A, 2, 1), -6);
        Check.due("its third number", x.rangeAt(0, 5, A, 2, 2), 9999);
        Check.due("0 behind what is below it", x.rangeAt(0, 5, A, 3, 2), -999);
        Check.due("not so many", x.rangeAt(0, 5, A, 4, 0), N);
        Check.due("nowhere near", x.rangeAt(0, 5, A, Integer.MAX_VALUE, 0), N);
        x.change(0, SET, 6, A, A, 1);
        put(x, 5, 5, A, 1);
        Check.due("rangeAt counts", x.commit(0), CONFLICT);
        Check.due("why: behind the first, of all", x.why(), 0);
    }

    private static void change() {
        Keyterrace x = new Keyterrace();
        Check.noState("change not begun", () -> x.change(0, SET, 1, A, A, 1));
        x.begin(0, false);
        Check.noPlace("no transaction ahead of kind", () -> x.change(4, 9, A, A, A, 1));
        Check.noArgument("kind -1", () -> x.change(0, -1, 1, A, A, 1));
        Check.noArgument("kind 7", () -> x.change(0, 7, 1, A, A, 1));
        Check.noArgument("value too high", () -> x.change(0, ADDED, 1, A, A, 1000001));
        Check.noArgument("value too low", () -> x.change(0, STAMPED_KEY, 1, A, A, -1000001));
        Check.noArgument("no key", () -> x.change(0, SET, 1, A, 1, 1));
        for (int a = -7; a <= -1; a++) {
            int layer = a;
            Check.noArgument("the layer " + a, () -> x.change(0, STAMPED_KEY, layer, A, A, 1));
        }
        Check.due("-8 is no layer", x.change(0, SET, -8, A, A, -1000000), 1);
        Check.due("0 is none", x.change(0, SET, 0, A, A, 1000000), 2);
        Check.due("-1 behind the first number", x.change(0, SET, 1, -1, A, 1), 3);
        Check.due("any value for CLEARED", x.change(0, CLEARED, 1, 2, A, N), 4);
        Check.due("any value for STAMPED_VALUE", x.change(0, STAMPED_VALUE, 1, 2, A, 2000000), 5);
        for (int i = 6; i <= 12; i++) {
            Check.due("the change " + i, x.change(0, ADDED, 1, 3, A, 1), i);
        }
        Check.noState("the 13th", () -> x.change(0, SET, 1, A, A, 1));
        Check.noArgument("an argument ahead of that", () -> x.change(0, SET, -3, A, A, 1));
        Check.due("seven were added", x.get(0, 1, 3, A, true), 7);
        Check.due("commit", x.commit(0), 1);
        Check.due("-8", x.value(1, -8, A, A), -1000000);
        Check.due("the stamped value", x.value(1, 1, 2, A), 1);
    }

    private static void stamps() {
        Keyterrace x = new Keyterrace();
        x.pass(5);
        x.begin(0, false);
        x.change(0, STAMPED_KEY, 3, A, A, 1);
        x.change(0, STAMPED_KEY, 3, -999, A, 2);
        x.change(0, STAMPED_KEY, 3, 3, 9999, 3);
        x.change(0, STAMPED_VALUE, 4, A, A, 0);
        x.change(0, ADDED, 4, A, A, 100);
        x.change(0, STAMPED_KEY, 4, 1, A, 8);
        x.change(0, STAMPED_KEY, 4, 2, A, 9);
        x.clear(0, 4, 6);
        x.change(0, SET, 3, 6, A, 77);
        x.commit(0);
        Check.due("one number", x.value(6, 6, A, A), 1);
        Check.due("two numbers, behind all others", x.value(6, 3, 6, A), 2);
        Check.due("three numbers", x.value(6, 3, 3, 6), 3);
        Check.due("a stamped value that is added to", x.value(6, 4, A, A), 106);
        Check.due("the last stamped key stays, and is not cleared", x.value(6, 4, 6, A), 9);
        x.begin(0, false);
        Check.due("nothing more", x.range(0, A, A, true), 5);
    }

    /** Adds 12 times a value by each of some commits: the answers of all but the last one are lost, so it goes on. */
    private static void addOften(Keyterrace x, int value, int commits) {
        x.begin(0, false);
        for (int i = 0; i < 12; i++) {
            x.change(0, ADDED, 1, A, A, value);
        }
        for (int i = 1; i < commits; i++) {
            x.lose(true);
            x.commit(0);
        }
        x.commit(0);
    }

    private static void goingRound() {
        Keyterrace x = new Keyterrace();
        for (int i = 0; i < 5; i++) {
            addOften(x, -1000000, 30);
        }
        addOften(x, -1000000, 28);
        addOften(x, -956970, 1);
        x.begin(0, false);
        x.change(0, ADDED, 1, A, A, -8);
        Check.due("180 commits", x.commit(0), 180);
        Check.due("told as NONE", x.value(180, 1, A, A), N);
        x.begin(1, false);
        Check.due("but it is there", x.range(1, 1, A, true), 1);
        x.change(1, LEAST, 1, A, A, 5);
        Check.due("and is the lesser one", x.get(1, 1, A, A, true), N);
        x.change(1, ADDED, 1, A, A, -1);
        Check.due("and goes round", x.get(1, 1, A, A, true), Integer.MAX_VALUE);
    }

    private static void clear() {
        Keyterrace x = new Keyterrace();
        Check.noState("clear not begun", () -> x.clear(0, 1, A));
        x.begin(0, false);
        Check.noPlace("no transaction", () -> x.clear(4, A, A));
        Check.noArgument("all keys", () -> x.clear(0, A, A));
        Check.noArgument("no first number", () -> x.clear(0, A, 1));
        Check.noArgument("-1000", () -> x.clear(0, -1000, A));
        Check.noArgument("b 10001", () -> x.clear(0, 1, 10001));
        Check.noArgument("the layer -7", () -> x.clear(0, -7, A));
        Check.noArgument("the layer -1", () -> x.clear(0, -1, 3));
        x.change(0, SET, 1, A, A, 1);
        x.change(0, SET, 1, 2, A, 1);
        x.change(0, SET, 1, 2, 3, 1);
        x.change(0, SET, 1, 3, A, 1);
        Check.due("clear (1, 2)", x.clear(0, 1, 2), 5);
        Check.due("what is left", x.range(0, 1, A, true), 2);
        Check.due("clear (1)", x.clear(0, 1, A), 6);
        Check.due("nothing is left", x.range(0, 1, A, true), 0);
        for (int i = 7; i <= 12; i++) {
            Check.due("clear -8", x.clear(0, -8, A), i);
        }
        Check.noState("the 13th", () -> x.clear(0, 1, A));
        Check.due("commit", x.commit(0), 1);
    }

    private static void commit() {
        Keyterrace x = new Keyterrace();
        Check.noPlace("commit(4)", () -> x.commit(4));
        Check.noPlace("commit(-1)", () -> x.commit(-1));
        Check.noState("commit not begun", () -> x.commit(0));
        x.begin(0, false);
        x.get(0, 1, A, A, true);
        put(x, 1, A, A, 1);
        Check.due("no changes: the version at which it reads", x.commit(0), 0);
        Check.noState("it is over", () -> x.commit(0));
        Check.due("version()", x.version(), 1);
        x.begin(0, false);
        x.get(0, 1, A, A, false);
        x.change(0, SET, 2, A, A, 1);
        put(x, 1, A, A, 2);
        Check.due("what does not count does not conflict", x.commit(0), 3);
        x.begin(0, false);
        x.change(0, ADDED, 1, A, A, 1);
        put(x, 1, A, A, 5);
        Check.due("ADDED never conflicts", x.commit(0), 5);
        Check.due("it adds to what is there then", x.value(5, 1, A, A), 6);
        Check.noState("over, with changes, too", () -> x.commit(0));
        Check.noState("over for reading", () -> x.get(0, 1, A, A, true));
        Check.noState("over for changes", () -> x.change(0, SET, 1, A, A, 1));
    }

    private static void conflicts() {
        Keyterrace x = new Keyterrace();
        put(x, 1, A, A, 1);
        x.begin(0, false);
        x.get(0, 1, A, A, true);
        x.change(0, SET, 2, A, A, 1);
        put(x, 1, A, A, 1);
        Check.due("the same value again is a conflict", x.commit(0), CONFLICT);
        x.begin(0, false);
        x.get(0, 9, A, A, true);
        x.change(0, SET, 2, A, A, 1);
        x.begin(3, false);
        x.change(3, CLEARED, 9, A, A, 0);
        x.commit(3);
        Check.due("so is a cleared key without value", x.commit(0), CONFLICT);
        x.begin(0, false);
        x.get(0, 9, 3, A, true);
        x.change(0, SET, 2, A, A, 1);
        wipe(x, 9, A);
        Check.due("so is a cleared range without keys", x.commit(0), CONFLICT);
        x.begin(0, false);
        x.get(0, 9, A, A, true);
        x.change(0, SET, 2, A, A, 1);
        wipe(x, 9, 3);
        Check.due("(9) is not in (9, 3)", x.commit(0), x.version());
        x.begin(0, false);
        x.range(0, 9, 3, true);
        x.change(0, SET, 2, A, A, 1);
        put(x, 9, A, A, 1);
        put(x, 9, 4, A, 1);
        Check.due("(9) and (9, 4) are not either", x.commit(0), x.version());
        x.begin(0, false);
        x.range(0, 9, 3, true);
        x.change(0, SET, 2, A, A, 1);
        put(x, 9, 3, A, 1);
        Check.due("(9, 3) has just these", x.commit(0), CONFLICT);
        x.begin(0, false);
        x.range(0, 9, 3, true);
        x.change(0, SET, 2, A, A, 1);
        wipe(x, 9, A);
        Check.due("a wider range cleared", x.commit(0), CONFLICT);
        x.begin(0, false);
        x.range(0, A, A, true);
        x.change(0, SET, 2, A, A, 1);
        put(x, -999, A, A, 1);
        Check.due("all keys", x.commit(0), CONFLICT);
        x.begin(0, false);
        x.get(0, 1, 30, A, true);
        x.change(0, SET, 2, A, A, 1);
        x.begin(3, false);
        x.change(3, STAMPED_KEY, 1, 0, A, 0);
        int stamp = x.version() + 1;
        Check.due("a stamped key changes", x.commit(3), stamp);
        Check.due("not this one", x.commit(0), stamp + 1);
        x.begin(0, false);
        x.get(0, 1, stamp + 2, A, true);
        x.change(0, SET, 2, A, A, 1);
        x.begin(3, false);
        x.change(3, STAMPED_KEY, 1, 0, A, 0);
        x.commit(3);
        Check.due("the one with the version", x.commit(0), CONFLICT);
        neighbours(x);
    }

    private static void neighbours(Keyterrace x) {
        x.begin(0, false);
        x.get(0, 9, 2, A, true);
        x.range(0, 9, 5, true);
        x.range(0, 11, A, true);
        x.change(0, SET, 2, A, A, 1);
        put(x, 9, 2, -999, 1);
        put(x, 9, 1, 9999, 1);
        wipe(x, 9, 4);
        wipe(x, 9, 6);
        wipe(x, 10, A);
        wipe(x, 12, A);
        Check.due("keys and ranges beside these", x.commit(0), x.version());
    }

    private static void ownChanges() {
        Keyterrace x = new Keyterrace();
        x.begin(0, false);
        x.change(0, SET, 1, 1, A, 1);
        x.change(0, ADDED, 1, 1, A, 1);
        x.get(0, 1, 1, A, true);
        put(x, 1, 1, A, 9);
        Check.due("a key that was set by it", x.commit(0), x.version());
        Check.due("its value", x.value(x.version(), 1, 1, A), 2);
        x.begin(0, false);
        x.change(0, ADDED, 1, 1, A, 1);
        x.get(0, 1, 1, A, true);
        x.change(0, SET, 1, 1, A, 1);
        put(x, 1, 1, A, 9);
        Check.due("a key that was set behind the reading", x.commit(0), CONFLICT);
        x.begin(0, false);
        x.change(0, CLEARED, 1, 1, A, 0);
        x.clear(0, 1, 2);
        x.range(0, 1, A, true);
        put(x, 1, 1, A, 9);
        put(x, 1, 2, 3, 9);
        wipe(x, 1, 2);
        Check.due("keys of a range, cleared ahead of it", x.commit(0), x.version());
        x.begin(0, false);
        x.clear(0, 1, 2);
        x.range(0, 1, A, true);
        wipe(x, 1, A);
        Check.due("the range cleared is more than these", x.commit(0), CONFLICT);
        x.begin(0, false);
        x.clear(0, 1, A);
        x.range(0, 1, 2, true);
        x.range(0, A, A, true);
        wipe(x, 1, A);
        Check.due("all in one range that was cleared", x.commit(0), x.version());
        x.begin(0, false);
        x.range(0, 1, A, true);
        x.clear(0, 1, A);
        wipe(x, 1, 5);
        Check.due("cleared behind the reading", x.commit(0), CONFLICT);
        x.begin(0, false);
        x.change(0, SET, 1, 2, A, 1);
        x.range(0, 1, A, true);
        wipe(x, 1, 2);
        Check.due("(1, 2, 0) was not set", x.commit(0), CONFLICT);
        x.begin(0, false);
        x.change(0, MOST, 1, 2, A, 1);
        x.range(0, 1, A, true);
        put(x, 1, 2, A, 1);
        Check.due("MOST hangs on what was there", x.commit(0), CONFLICT);
        ownStamps();
    }

    private static void ownStamps() {
        Keyterrace x = new Keyterrace();
        put(x, 1, 1, A, 9);
        x.begin(0, false);
        x.change(0, STAMPED_VALUE, 1, 1, A, 0);
        x.change(0, ADDED, 1, 1, A, 1);
        x.range(0, 1, A, true);
        put(x, 1, 1, A, 9);
        Check.due("a STAMPED value hangs on nothing else", x.commit(0), 3);
        Check.due("the stamp and 1", x.value(3, 1, 1, A), 4);
        x.begin(0, false);
        x.range(0, 1, A, true);
        x.change(0, STAMPED_VALUE, 1, 1, A, 0);
        put(x, 1, 1, A, 9);
        Check.due("STAMPED behind the reading", x.commit(0), CONFLICT);
        x.begin(0, false);
        x.change(0, STAMPED_VALUE, 1, 1, A, 0);
        x.rangeAt(0, 1, A, 0, 0);
        put(x, 1, 2, A, 9);
        Check.due("another key of the range", x.commit(0), CONFLICT);
        x.begin(0, false);
        x.change(0, STAMPED_VALUE, 1, 1, A, 0);
        x.range(0, 1, 1, true);
        wipe(x, 1, 1);
        Check.due("(1, 1, 0) was not STAMPED", x.commit(0), CONFLICT);
        x.begin(0, false);
        x.change(0, STAMPED_KEY, 1, 0, A, 0);
        x.range(0, 1, A, true);
        put(x, 1, 0, A, 9);
        Check.due("a STAMPED key is not what it is told as", x.commit(0), CONFLICT);
        x.begin(0, false);
        x.change(0, STAMPED_VALUE, 1, 1, A, 0);
        x.lose(true);
        Check.due("LOST, done", x.commit(0), LOST);
        x.range(0, 1, A, true);
        Check.due("it does not meet itself", x.commit(0), x.version());
    }

    private static void why() {
        Keyterrace x = new Keyterrace();
        Check.due("why at first", x.why(), N);
        x.begin(0, false);
        x.change(0, SET, 5, A, A, 1);
        x.get(0, 5, A, A, true);
        x.get(0, 1, A, A, false);
        x.get(0, 2, A, A, true);
        x.range(0, 1, A, false);
        x.range(0, 3, A, true);
        x.get(0, 1, A, A, true);
        put(x, 1, A, A, 1);
        Check.due("commit", x.commit(0), CONFLICT);
        Check.due("the third that is put down", x.why(), 2);
        x.begin(0, false);
        x.get(0, 1, A, A, true);
        x.get(0, 2, A, A, true);
        x.change(0, SET, 5, A, A, 1);
        put(x, 2, A, A, 1);
        put(x, 1, A, A, 1);
        Check.due("commit", x.commit(0), CONFLICT);
        Check.due("by the readings' order, not the commits'", x.why(), 0);
        put(x, 7, A, A, 1);
        x.recover();
        Check.due("it stays", x.why(), 0);
    }

    private static void tooOld() {
        Keyterrace x = new Keyterrace();
        x.begin(0, false);
        x.begin(1, false);
        x.get(1, 1, A, A, true);
        x.change(0, SET, 1, A, A, 1);
        x.change(1, SET, 1, A, A, 1);
        x.pass(10);
        x.pass(10);
        x.pass(10);
        Check.due("30 below is not too old", x.commit(0), 31);
        Check.due("31 below is, ahead of a conflict", x.commit(1), TOO_OLD);
        Check.noState("it is over", () -> x.get(1, 1, A, A, true));
        Check.due("no conflict", x.why(), N);
        x.begin(0, false);
        x.change(0, SET, 1, A, A, 1);
        Check.due("recover()", x.recover(), 41);
        Check.due("another generation", x.commit(0), TOO_OLD);
        Check.due("version()", x.version(), 41);
        Check.due("of the time between", x.value(35, 1, A, A), 1);
    }

    private static void lose() {
        Keyterrace x = new Keyterrace();
        x.lose(true);
        x.begin(0, false);
        Check.due("not one without changes", x.commit(0), 0);
        x.begin(0, false);
        x.get(0, 1, A, A, true);
        x.change(0, ADDED, 1, A, A, 5);
        Check.due("LOST", x.commit(0), LOST);
        Check.due("done", x.version(), 1);
        Check.due("not over", x.change(0, ADDED, 2, A, A, 1), 2);
        Check.due("it met itself", x.commit(0), CONFLICT);
        Check.noState("over", () -> x.commit(0));
        x.begin(0, false);
        x.change(0, ADDED, 1, A, A, 5);
        x.lose(true);
        x.lose(false);
        Check.due("LOST, not done", x.commit(0), LOST);
        Check.due("nothing done", x.version(), 1);
        Check.due("again", x.commit(0), 2);
        Check.due("once", x.value(2, 1, A, A), 10);
        x.lose(true);
        x.begin(0, false);
        x.get(0, 1, A, A, true);
        x.change(0, SET, 1, A, A, 5);
        put2(x);
        Check.due("what a conflict does not use up", x.commit(0), CONFLICT);
        x.begin(0, false);
        x.change(0, STAMPED_KEY, 8, 0, A, 5);
        Check.due("is used now", x.commit(0), 5);
    }

    /** The commit of another transaction whose answer is lost, and lost once more. */
    private static void put2(Keyterrace x) {
        x.begin(2, false);
        x.change(2, SET, 1, A, A, 6);
        Check.due("LOST", x.commit(2), LOST);
        Check.due("then done again", x.commit(2), 4);
    }

    private static void once() {
        Keyterrace x = new Keyterrace();
        x.begin(0, true);
        x.get(0, 1, A, A, true);
        x.change(0, ADDED, 1, A, A, 5);
        x.lose(true);
        Check.due("LOST", x.commit(0), LOST);
        Check.due("done", x.value(1, 1, A, A), 5);
        x.recover();
        x.recover();
        x.recover();
        x.recover();
        x.lose(true);
        Check.due("that version, ahead of all else", x.commit(0), 1);
        Check.due("nothing is done", x.version(), 41);
        Check.noState("over", () -> x.commit(0));
        x.begin(0, true);
        x.change(0, ADDED, 1, A, A, 5);
        Check.due("the loss is still to come", x.commit(0), LOST);
        Check.due("that version", x.commit(0), 42);
        x.begin(0, true);
        x.change(0, ADDED, 1, A, A, 5);
        x.lose(false);
        Check.due("LOST, not done", x.commit(0), LOST);
        Check.due("done now", x.commit(0), 43);
        Check.due("the sum", x.value(43, 1, A, A), 15);
    }

    private static void versions() {
        Keyterrace x = new Keyterrace();
        Check.noArgument("pass(0)", () -> x.pass(0));
        Check.noArgument("pass(11)", () -> x.pass(11));
        Check.noArgument("pass(MIN)", () -> x.pass(N));
        Check.due("pass(1)", x.pass(1), 1);
        Check.due("pass(10)", x.pass(10), 11);
        Check.due("recover()", x.recover(), 21);
        put(x, 1, A, A, 4);
        Check.due("version()", x.version(), 22);
        Check.noArgument("version -1", () -> x.value(-1, 1, A, A));
        Check.noArgument("version 23", () -> x.value(23, 1, A, A));
        Check.noArgument("no key", () -> x.value(22, 1, A, 1));
        Check.due("ahead of it", x.value(21, 1, A, A), N);
        Check.due("in the version 0", x.value(0, 1, A, A), N);
        Check.due("then", x.value(22, 1, A, A), 4);
        wipe(x, 1, A);
        Check.due("cleared", x.value(23, 1, A, A), N);
        Check.due("still in that version", x.value(22, 1, A, A), 4);
    }

    private static void packed() {
        Keyterrace x = new Keyterrace();
        int[] due = {1, 0, 1, 2, 99, 99, 1, 9, 99, N};
        for (int i = 0; i < due.length; i++) {
            Check.due("packed(-999, 9999, -1) at " + i, x.packed(-999, 9999, -1, i), due[i]);
        }
        Check.due("zero", x.packed(0, A, A, 0), 2);
        Check.due("zero", x.packed(0, A, A, 1), 0);
        Check.due("behind", x.packed(0, A, A, 3), N);
        Check.due("far behind", x.packed(0, 1, A, Integer.MAX_VALUE), N);
        Check.noPlace("place -1 ahead of no key", () -> x.packed(A, A, A, -1));
        Check.noArgument("no key", () -> x.packed(A, A, A, 0));
    }

    public static void main(String[] args) {
        begin();
        get();
        whatIsSeen();
        range();
        rangeAt();
        change();
        stamps();
        goingRound();
        clear();
        commit();
        conflicts();
        ownChanges();
        why();
        tooOld();
        lose();
        once();
        versions();
        packed();
        Check.end();
    }
}
