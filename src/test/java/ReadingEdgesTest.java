/** What is read, what is put down, and what meets it: Terms, and the promises 2 to 5 and 9. */
public final class ReadingEdgesTest {
    private static final int A = Keyterrace.ABSENT, N = Keyterrace.NONE, MAX = Integer.MAX_VALUE;
    private static final int SET = Keyterrace.SET, CLEARED = Keyterrace.CLEARED, ADDED = Keyterrace.ADDED;
    private static final int MOST = Keyterrace.MOST, LEAST = Keyterrace.LEAST;
    private static final int STAMPED_VALUE = Keyterrace.STAMPED_VALUE, STAMPED_KEY = Keyterrace.STAMPED_KEY;
    private static final int CONFLICT = Keyterrace.CONFLICT;

    /** The transaction 0 makes calls and sets a key beside; what becomes of it if there was another commit. */
    private static boolean isMet(Twins.Calls own, Twins.Calls other) {
        Keyterrace x = new Keyterrace();
        States.put(x, 1, 1, A, 9);
        States.put(x, 1, 2, A, 9);
        x.begin(0, false);
        own.on(x);
        x.change(0, SET, 900, A, A, 1);
        other.on(x);
        int now = x.version();
        int told = x.commit(0);
        Check.holds("it is done or a CONFLICT", told == CONFLICT || told == now + 1);
        return told == CONFLICT;
    }

    private static void met(String what, Twins.Calls own, Twins.Calls other) {
        Check.holds(what, isMet(own, other));
    }

    private static void notMet(String what, Twins.Calls own, Twins.Calls other) {
        Check.holds(what, !isMet(own, other));
    }

    private static Twins.Calls put(int a, int b, int c) {
        return x -> States.put(x, a, b, c, 9);
    }

    private static Twins.Calls wipe(int a, int b) {
        return x -> States.clearRange(x, a, b);
    }

    private static Twins.Calls get(int a, int b, int c) {
        return x -> x.get(0, a, b, c, true);
    }

    private static Twins.Calls range(int a, int b) {
        return x -> x.range(0, a, b, true);
    }

    private static Twins.Calls change(int kind, int a, int b, int c) {
        return x -> x.change(0, kind, a, b, c, 1);
    }

    private static Twins.Calls clear(int a, int b) {
        return x -> x.clear(0, a, b);
    }

    private static Twins.Calls all(Twins.Calls... calls) {
        return x -> {
            for (Twins.Calls call : calls) {
                call.on(x);
            }
        };
    }

    private static void begun() {
        Check.says(0, "There are the transactions 0 to 3.");
        Check.says(2, "`transaction`: 0 to 3");
        Keyterrace x = new Keyterrace();
        for (int t = 0; t <= 3; t++) {
            Check.due("begin " + t, x.begin(t, t > 1), 0);
            x.change(t, ADDED, 1, t, A, 1);
        }
        for (int t = 0; t <= 3; t++) {
            Check.due("each has its own changes", x.range(t, 1, A, true), 1);
            Check.due("at its own key", x.rangeAt(t, 1, A, 0, 1), t);
        }
        Check.noPlace("no -1", () -> x.begin(-1, false));
        Check.noPlace("no 4", () -> x.begin(4, false));
        Check.says(2, "Begins a transaction; if it was begun, that one is over.");
        x.begin(0, false);
        Check.due("what it changed is gone", x.range(0, 1, A, true), 0);
        Check.due("there is nothing to commit", x.commit(0), 0);
        x.begin(0, false);
        x.get(0, 1, A, A, true);
        x.begin(0, false);
        x.change(0, SET, 2, A, A, 1);
        States.put(x, 1, A, A, 1);
        Check.due("so is what it read", x.commit(0), 2);
        x.begin(0, true);
        x.change(0, SET, 2, A, A, 3);
        x.lose(true);
        x.commit(0);
        x.begin(0, true);
        Check.due("so is what it was done by", x.commit(0), 3);
        Check.says(2, "`once`: whether it is ONCE");
        x.begin(0, false);
        x.change(0, ADDED, 2, A, A, 1);
        x.lose(true);
        x.commit(0);
        Check.due("if not, it is done again", x.commit(0), 5);
        x.begin(0, true);
        x.change(0, ADDED, 2, A, A, 1);
        x.lose(true);
        x.commit(0);
        Check.due("if so, it is not", x.commit(0), 6);
        Check.due("3 were added", x.value(6, 2, A, A), 6);
        Check.says(2, "Returns the version at which it reads.");
        x.pass(4);
        Check.due("that of then", x.begin(3, false), 10);
        Check.says(0, "One that is begun reads at the version of then");
        States.put(x, 5, A, A, 1);
        x.begin(0, false);
        States.put(x, 5, A, A, 2);
        States.put(x, 5, 1, A, 2);
        Check.due("a key", x.get(0, 5, A, A, false), 1);
        Check.due("a key that was not there", x.get(0, 5, 1, A, false), N);
        Check.due("a range", x.range(0, 5, A, false), 1);
        States.clearRange(x, 5, A);
        Check.due("a key that was cleared", x.get(0, 5, A, A, false), 1);
        Check.due("its range", x.rangeAt(0, 5, A, 0, 0), 5);
        Check.due("not so many", x.rangeAt(0, 5, A, 1, 0), N);
        Check.says(0, "it sees these.");
        x.change(0, SET, 5, 1, A, 8);
        Check.due("a key", x.get(0, 5, 1, A, false), 8);
        Check.due("a range", x.range(0, 5, A, false), 2);
    }

    private static void answers() {
        Keyterrace x = new Keyterrace();
        Check.says(3, "`transaction`: 0 to 3");
        Check.says(4, "`transaction`: 0 to 3");
        Check.says(5, "`transaction`: 0 to 3");
        for (int t = 0; t <= 3; t++) {
            x.begin(t, false);
            x.change(t, SET, 1, 2, A, 4 + t);
            Check.due("get", x.get(t, 1, 2, A, true), 4 + t);
            Check.due("range", x.range(t, 1, A, true), 1);
            Check.due("rangeAt", x.rangeAt(t, 1, A, 0, 1), 2);
        }
        Check.says(3, "Reads a key.");
        Check.says(3, "Returns the value, NONE without.");
        Check.due("a value of 0 is one", x.change(0, SET, 1, 2, A, 0), 2);
        Check.due("get", x.get(0, 1, 2, A, true), 0);
        Check.due("without", x.get(0, 1, A, A, true), N);
        x.change(0, CLEARED, 1, 2, A, 0);
        Check.due("cleared", x.get(0, 1, 2, A, true), N);
        Check.says(4, "Reads a range: how many keys with a value it has.");
        Check.says(4, "Returns how many.");
        Check.due("none", x.range(0, 1, A, true), 0);
        x.change(0, SET, 1, 2, A, 0);
        x.change(0, ADDED, 1, 3, 3, 0);
        Check.due("two with the value 0", x.range(0, 1, A, true), 2);
        Check.says(4, "`a`: the first number, or ABSENT for all keys");
        Check.says(4, "`b`: the second one, or ABSENT; ABSENT if the first one is");
        x.change(0, SET, 2, A, A, 0);
        Check.due("(1)", x.range(0, 1, A, true), 2);
        Check.due("(1, 3)", x.range(0, 1, 3, true), 1);
        Check.due("all", x.range(0, A, A, true), 3);
        Check.noArgument("no first one", () -> x.range(0, A, 3, true));
        Check.says(5, "`a`: the first number, or ABSENT for all keys");
        Check.says(5, "`b`: the second one, or ABSENT; ABSENT if the first one is");
        Check.due("(1)", x.rangeAt(0, 1, A, 1, 2), 3);
        Check.due("(1, 3)", x.rangeAt(0, 1, 3, 0, 2), 3);
        Check.due("all", x.rangeAt(0, A, A, 2, 0), 2);
        Check.noArgument("no first one", () -> x.rangeAt(0, A, 3, 0, 0));
        Check.says(5, "Reads a range: a number of a key with a value.");
        Check.says(5, "`place`: 0 for the first key");
        Check.due("the first", x.rangeAt(0, A, A, 0, 1), 2);
        Check.due("the second", x.rangeAt(0, A, A, 1, 1), 3);
        Check.noPlace("-1", () -> x.rangeAt(0, A, A, -1, 1));
        Check.says(5, "`what`: 0 to 2: which of its numbers");
        Check.due("0", x.rangeAt(0, A, A, 1, 0), 1);
        Check.due("1", x.rangeAt(0, A, A, 1, 1), 3);
        Check.due("2", x.rangeAt(0, A, A, 1, 2), 3);
        Check.noArgument("-1", () -> x.rangeAt(0, A, A, 1, -1));
        Check.noArgument("3", () -> x.rangeAt(0, A, A, 1, 3));
        Check.says(5, "Returns the number, or ABSENT; NONE if there are not so many keys.");
        Check.due("ABSENT", x.rangeAt(0, A, A, 2, 1), A);
        Check.due("ABSENT, too", x.rangeAt(0, A, A, 0, 2), A);
        Check.due("the last one", x.rangeAt(0, A, A, 2, 0), 2);
        Check.due("one more", x.rangeAt(0, A, A, 3, 0), N);
        Check.due("far more", x.rangeAt(0, A, A, MAX, 2), N);
        Check.due("an empty range", x.rangeAt(0, 9, A, 0, 0), N);
    }

    private static void putDown() {
        Check.says(0, "To read a key, or a range, in it, is put down, unless it is said that it does not count;");
        met("a key", get(1, 1, A), put(1, 1, A));
        met("a key without a value", get(7, A, A), put(7, A, A));
        met("a range", range(1, A), put(1, 1, A));
        met("a range without keys", range(7, A), put(7, 1, A));
        met("all keys", range(A, A), put(7, 1, A));
        notMet("another key", get(1, 1, A), put(1, 1, 0));
        notMet("the key that it begins with", get(1, 1, A), put(1, A, A));
        notMet("a key beside a range", range(1, 1), put(1, 2, A));
        notMet("the first number of a range of two", range(1, 1), put(1, A, A));
        notMet("the key just behind one", get(1, 1, 1), put(1, 1, 2));
        notMet("the key just ahead of one", get(1, 1, 1), put(1, 1, 0));
        notMet("the key just behind a range", range(1, 1), put(1, 2, A));
        notMet("the key just ahead of a range", range(1, 1), put(1, 0, 9999));
        notMet("the key just behind a range of one number", range(1, A), put(2, A, A));
        notMet("the key just ahead of a range of one number", range(1, A), put(0, 9999, 9999));
        notMet("nothing was read", x -> { }, put(1, 1, A));
        Check.says(3, "`counts`: whether it counts that it is read");
        notMet("it does not", x -> x.get(0, 1, 1, A, false), put(1, 1, A));
        met("it does", x -> x.get(0, 1, 1, A, true), put(1, 1, A));
        met("once it does", all(x -> x.get(0, 1, 1, A, false), get(1, 1, A)), put(1, 1, A));
        met("once it does", all(get(1, 1, A), x -> x.get(0, 1, 1, A, false)), put(1, 1, A));
        Check.says(4, "`counts`: whether it counts that it is read");
        notMet("it does not", x -> x.range(0, 1, A, false), put(1, 1, A));
        met("it does", x -> x.range(0, 1, A, true), put(1, 1, A));
        Check.says(5, "Reads a range: a number of a key with a value.");
        met("the key itself", x -> x.rangeAt(0, 1, A, 0, 0), put(1, 1, A));
        met("one behind it", x -> x.rangeAt(0, 1, A, 0, 0), put(1, 3, A));
        met("where there are not so many", x -> x.rangeAt(0, 1, A, 9, 0), put(1, 1, A));
        met("where there are none", x -> x.rangeAt(0, 7, A, 0, 0), put(7, A, A));
    }

    private static void ownKeys() {
        Check.says(0, "but not of a key of which the value there hangs on its own changes alone: those that are set or "
            + "cleared");
        notMet("SET", all(change(SET, 1, 1, A), get(1, 1, A)), put(1, 1, A));
        notMet("CLEARED", all(change(CLEARED, 1, 1, A), get(1, 1, A)), put(1, 1, A));
        notMet("a range cleared", all(clear(1, A), get(1, 1, A)), put(1, 1, A));
        notMet("with just these numbers", all(clear(1, A), get(1, A, A)), put(1, A, A));
        notMet("of two numbers", all(clear(1, 1), get(1, 1, 1)), put(1, 1, 1));
        notMet("a range that is cleared by another", all(change(SET, 1, 1, A), get(1, 1, A)), wipe(1, A));
        met("ADDED", all(change(ADDED, 1, 1, A), get(1, 1, A)), put(1, 1, A));
        met("MOST", all(change(MOST, 1, 1, A), get(1, 1, A)), put(1, 1, A));
        met("LEAST", all(change(LEAST, 1, 1, A), get(1, 1, A)), put(1, 1, A));
        met("ADDED without a value", all(change(ADDED, 7, A, A), get(7, A, A)), put(7, A, A));
        met("a STAMPED key that is told as it", all(change(STAMPED_KEY, 1, 1, A), get(1, 1, A)), put(1, 1, A));
        met("another key SET", all(change(SET, 1, 1, 1), get(1, 1, A)), put(1, 1, A));
        met("another range cleared", all(clear(1, 2), get(1, 1, A)), put(1, 1, A));
        met("the key just behind the one SET", all(change(SET, 1, 1, 1), get(1, 1, 2)), put(1, 1, 2));
        met("the key just ahead of the one SET", all(change(SET, 1, 1, 1), get(1, 1, 0)), put(1, 1, 0));
        met("the key just behind the range cleared", all(clear(1, 1), get(1, 2, A)), put(1, 2, A));
        met("the key just ahead of the range cleared", all(clear(1, 1), get(1, 0, 9999)), put(1, 0, 9999));
        met("SET behind it", all(get(1, 1, A), change(SET, 1, 1, A)), put(1, 1, A));
        met("cleared behind it", all(get(1, 1, A), clear(1, A)), put(1, 1, A));
        Check.says(0, "with whatever was done to them behind that;");
        for (int kind : new int[] {ADDED, MOST, LEAST, SET, CLEARED}) {
            notMet("SET, and then " + kind, all(change(SET, 1, 1, A), change(kind, 1, 1, A), get(1, 1, A)), put(1, 1, A));
            notMet("cleared, and then " + kind, all(clear(1, A), change(kind, 1, 1, A), get(1, 1, A)), put(1, 1, A));
            notMet(kind + ", and then SET", all(change(kind, 1, 1, A), change(SET, 1, 1, A), get(1, 1, A)), put(1, 1, A));
        }
        notMet("STAMPED, and then SET", all(change(STAMPED_VALUE, 1, 1, A), change(SET, 1, 1, A), get(1, 1, A)),
            put(1, 1, A));
        met("ADDED, read, and then SET", all(change(ADDED, 1, 1, A), get(1, 1, A), change(SET, 1, 1, A)), put(1, 1, A));
    }

    private static void ownKeysOfRanges() {
        Check.says(0, "so are keys of a range that was read, by the changes that were kept then.");
        for (int kind : new int[] {SET, CLEARED, STAMPED_VALUE}) {
            notMet("kept then: " + kind, all(change(kind, 1, 1, A), range(1, A)), put(1, 1, A));
            notMet("and ADDED", all(change(kind, 1, 1, A), change(ADDED, 1, 1, A), range(1, A)), put(1, 1, A));
            notMet("by rangeAt", all(change(kind, 1, 1, A), x -> x.rangeAt(0, 1, A, 0, 0)), put(1, 1, A));
            notMet("all keys", all(change(kind, 1, 1, A), range(A, A)), put(1, 1, A));
            met("another key of it", all(change(kind, 1, 1, A), range(1, A)), put(1, 2, A));
            met("kept behind it: " + kind, all(range(1, A), change(kind, 1, 1, A)), put(1, 1, A));
            met("read ahead and behind", all(range(1, A), change(kind, 1, 1, A), range(1, A)), put(1, 1, A));
        }
        notMet("a range kept then", all(clear(1, A), range(1, A)), put(1, 5, 5));
        met("the key just behind the one SET", all(change(SET, 1, 1, 1), range(1, A)), put(1, 1, 2));
        met("the key just ahead of the one SET", all(change(SET, 1, 1, 1), range(1, A)), put(1, 1, 0));
        met("the key just behind the range cleared", all(clear(1, 1), range(1, A)), put(1, 2, A));
        met("the key just ahead of the range cleared", all(clear(1, 1), range(1, A)), put(1, 0, 9999));
        met("one of two numbers", all(clear(1, 2), range(1, A)), put(1, 1, A));
        met("kept behind it", all(range(1, A), clear(1, A)), put(1, 5, 5));
        met("ADDED alone", all(change(ADDED, 1, 1, A), range(1, A)), put(1, 1, A));
        met("MOST alone", all(change(MOST, 1, 1, A), range(1, A)), put(1, 1, A));
        met("LEAST alone", all(change(LEAST, 1, 1, A), range(1, A)), put(1, 1, A));
        met("a STAMPED key", all(change(STAMPED_KEY, 1, 1, A), range(1, A)), put(1, 1, A));
    }

    private static void rangesInCommon() {
        Check.says(0, "(A range that another commit clears was read as far as both have keys in common");
        met("the same range", range(7, A), wipe(7, A));
        met("the same two numbers", range(7, 7), wipe(7, 7));
        met("a part of what was read", range(7, A), wipe(7, 7));
        met("more than was read", range(7, 7), wipe(7, A));
        met("of all keys", range(A, A), wipe(7, 7));
        met("a key in it", get(7, 7, 7), wipe(7, A));
        met("a key in it, of two", get(7, 7, 7), wipe(7, 7));
        met("the key with just these numbers", get(7, A, A), wipe(7, A));
        met("the key with just these two", get(7, 7, A), wipe(7, 7));
        notMet("nothing in common", range(7, A), wipe(8, A));
        notMet("nothing in common of two", range(7, 7), wipe(7, 8));
        notMet("nor ahead of it", range(7, 7), wipe(7, 6));
        notMet("a key that it begins with", get(7, A, A), wipe(7, 7));
        notMet("a key beside it", get(7, 8, A), wipe(7, 7));
        Check.says(0, "unless all of these are in one range that was cleared by it itself ahead of reading.)");
        notMet("the same range", all(clear(7, A), range(7, A)), wipe(7, A));
        notMet("the same two numbers", all(clear(7, 7), range(7, 7)), wipe(7, 7));
        notMet("all in common, of more that was read", all(clear(7, A), range(A, A)), wipe(7, A));
        notMet("all in common, of more that was cleared", all(clear(7, 7), range(7, 7)), wipe(7, A));
        notMet("all in common, of less that was cleared", all(clear(7, 7), range(7, A)), wipe(7, 7));
        notMet("more was cleared by it itself", all(clear(7, A), range(7, 7)), wipe(7, 7));
        notMet("with what was changed there", all(clear(7, A), change(ADDED, 7, 7, A), range(7, A)), wipe(7, A));
        met("not all of these", all(clear(7, 7), range(7, A)), wipe(7, A));
        met("not all of these, of all keys", all(clear(7, A), range(A, A)), all(wipe(7, A), wipe(8, A)));
        met("in two ranges, not in one", all(clear(1, 1), clear(1, 2), range(1, A)), wipe(1, A));
        met("behind reading", all(range(7, A), clear(7, A)), wipe(7, A));
        met("set by it itself, not cleared", all(change(SET, 1, 1, A), change(SET, 1, 2, A), range(1, A)), wipe(1, A));
        met("keys cleared by it itself", all(change(CLEARED, 1, 1, A), change(CLEARED, 1, 2, A), range(1, A)), wipe(1, A));
        met("STAMPED by it itself", all(change(STAMPED_VALUE, 1, 1, A), range(1, 1)), wipe(1, 1));
    }

    private static void changedByCommits() {
        Check.says(0, "If some key was changed, by a commit behind the version at which it reads, that it read, or that is "
            + "in a range that it read, it is a CONFLICT");
        notMet("by the commit of the version at which it reads", get(1, 2, A), x -> { });
        notMet("nor a range by that", range(1, A), x -> { });
        Keyterrace cleared = new Keyterrace();
        States.clearRange(cleared, 1, A);
        cleared.begin(0, false);
        cleared.get(0, 1, 1, A, true);
        cleared.range(0, 1, A, true);
        cleared.change(0, SET, 2, A, A, 1);
        Check.due("a range cleared by the commit of that version", cleared.commit(0), 2);
        met("by the commit behind it", get(1, 2, A), put(1, 2, A));
        met("a range cleared by the commit behind it", get(1, 2, A), wipe(1, A));
        met("by one far behind it", get(1, 2, A), all(put(1, 2, A), x -> x.pass(10), x -> x.pass(10), put(8, A, A)));
        met("CLEARED", get(1, 2, A), x -> States.clearKey(x, 1, 2, A));
        met("by a STAMPED key", get(1, 3, A), x -> {
            x.begin(3, false);
            x.change(3, STAMPED_KEY, 1, 0, A, 1);
            x.commit(3);
        });
        notMet("by what was not done", get(1, 2, A), x -> {
            x.begin(3, false);
            x.change(3, SET, 1, 2, A, 1);
            x.lose(false);
            x.commit(3);
        });
        met("by what was done and LOST", get(1, 2, A), x -> {
            x.begin(3, false);
            x.change(3, SET, 1, 2, A, 1);
            x.lose(true);
            x.commit(3);
        });
        Check.says(0, "(also if its value became what it was;");
        met("the same value", get(1, 2, A), put(1, 2, A));
        met("ADDED 0", get(1, 2, A), changed(ADDED, 1, 2, 0));
        met("MOST of less", get(1, 2, A), changed(MOST, 1, 2, -5));
        met("LEAST of more", get(1, 2, A), changed(LEAST, 1, 2, 50));
        met("to and fro", get(1, 2, A), all(x -> States.put(x, 1, 2, A, 5), x -> States.put(x, 1, 2, A, 9)));
        met("cleared without a value", get(7, A, A), x -> States.clearKey(x, 7, A, A));
        met("in a range, too", range(7, A), x -> States.clearKey(x, 7, 3, A));
        Check.says(0, "a range that is cleared changes all keys in it, with or without values).");
        met("with a value", get(1, 2, A), wipe(1, A));
        met("without", get(1, 3, A), wipe(1, A));
        met("a key that never was", get(1, 9999, 9999), wipe(1, A));
        met("of two numbers", get(1, 3, -999), wipe(1, 3));
    }

    private static Twins.Calls changed(int kind, int a, int b, int value) {
        return x -> {
            x.begin(3, false);
            x.change(3, kind, a, b, A, value);
            x.commit(3);
        };
    }

    private static int whyOf(Twins.Calls own, Twins.Calls other) {
        Keyterrace x = new Keyterrace();
        x.begin(0, false);
        own.on(x);
        x.change(0, SET, 900, A, A, 1);
        other.on(x);
        x.commit(0);
        return x.why();
    }

    private static void why() {
        Check.says(9, "Returns which of its readings that count, from 0, in their order, was the first that met the last "
            + "CONFLICT; NONE without.");
        Check.due("without", new Keyterrace().why(), N);
        Check.due("none met", whyOf(get(1, 1, A), put(1, 2, A)), N);
        Check.due("from 0", whyOf(get(1, 1, A), put(1, 1, A)), 0);
        Check.due("the second", whyOf(all(get(1, 2, A), get(1, 1, A)), put(1, 1, A)), 1);
        Check.due("those that count", whyOf(all(x -> x.get(0, 1, 2, A, false), x -> x.range(0, 2, A, false), get(1, 1, A)),
            put(1, 1, A)), 0);
        Check.due("ranges, too", whyOf(all(range(2, A), x -> x.rangeAt(0, 3, A, 0, 0), get(1, 1, A)), put(1, 1, A)), 2);
        Check.due("the same key again", whyOf(all(get(2, A, A), get(2, A, A), get(1, 1, A)), put(1, 1, A)), 2);
        Check.due("the first that met", whyOf(all(get(2, A, A), get(1, 1, A), range(1, A)), put(1, 1, A)), 1);
        Check.due("the first of two keys", whyOf(all(get(1, 2, A), get(1, 1, A)), all(put(1, 1, A), put(1, 2, A))), 0);
        Check.due("a range cleared", whyOf(all(get(2, A, A), range(3, A)), wipe(3, 3)), 1);
        Check.due("a range ahead of a key", whyOf(all(range(1, A), get(1, 1, A)), put(1, 1, A)), 0);
        Check.due("a key of its own is not put down", whyOf(all(change(SET, 2, A, A), get(2, A, A), clear(3, A),
            get(3, 3, A), get(1, 1, A)), put(1, 1, A)), 0);
        Check.due("a range is, with keys of its own, too", whyOf(all(clear(3, A), range(3, A), get(1, 1, A)),
            put(1, 1, A)), 1);
        Check.due("a range that was its own, read anew", whyOf(all(change(SET, 1, 1, A), range(1, A), clear(1, A),
            range(1, A)), put(1, 2, A)), 0);
        Check.due("what a record reads", whyOf(x -> x.save(0, 5, 5), x -> States.saved(x, 5, 6)), 3);
        Keyterrace x = new Keyterrace();
        for (int many = 1; many <= 2; many++) {
            x.begin(0, false);
            for (int i = 0; i < many; i++) {
                x.get(0, 1, i, A, true);
            }
            x.change(0, SET, 2, A, A, 1);
            States.put(x, 1, many - 1, A, 1);
            x.commit(0);
            Check.due("of the last one", x.why(), many - 1);
        }
        x.begin(0, false);
        x.change(0, SET, 2, A, A, 1);
        x.commit(0);
        Check.due("behind one that is done", x.why(), 1);
        x.begin(0, false);
        x.get(0, 1, 0, A, true);
        x.change(0, SET, 2, A, A, 1);
        States.put(x, 1, 0, A, 1);
        x.recover();
        Check.due("TOO_OLD", x.commit(0), Keyterrace.TOO_OLD);
        Check.due("behind that", x.why(), 1);
    }

    public static void main(String[] args) {
        begun();
        answers();
        putDown();
        ownKeys();
        ownKeysOfRanges();
        rangesInCommon();
        changedByCommits();
        why();
        Check.end();
    }
}
