/** The edges of changes: Terms, and the promises 6 and 7. */
public final class ChangeEdgesTest {
    private static final int A = Keyterrace.ABSENT, N = Keyterrace.NONE, MAX = Integer.MAX_VALUE;
    private static final int SET = Keyterrace.SET, CLEARED = Keyterrace.CLEARED, ADDED = Keyterrace.ADDED;
    private static final int MOST = Keyterrace.MOST, LEAST = Keyterrace.LEAST;
    private static final int STAMPED_VALUE = Keyterrace.STAMPED_VALUE, STAMPED_KEY = Keyterrace.STAMPED_KEY;

    /** The value of a key that has a value (N: none), behind one change, in the transaction and behind its commit. */
    private static void changes(String what, int before, int kind, int value, int due) {
        Keyterrace x = new Keyterrace();
        if (before != N) {
            States.put(x, 1, 1, A, before);
        }
        x.begin(0, false);
        x.change(0, kind, 1, 1, A, value);
        Check.due(what + ", seen", x.get(0, 1, 1, A, true), due);
        Check.due(what + ", in a range", x.range(0, 1, A, true), due == N ? 0 : 1);
        x.commit(0);
        Check.due(what + ", done", x.value(x.version(), 1, 1, A), due);
    }

    private static void kinds() {
        Check.says(0, "Changes are: a key is SET;");
        changes("SET", N, SET, 5, 5);
        changes("SET again", 9, SET, 5, 5);
        changes("SET to 0", 9, SET, 0, 0);
        Check.says(0, "a key, or a range, is CLEARED;");
        changes("CLEARED", 9, CLEARED, 5, N);
        changes("CLEARED without", N, CLEARED, 5, N);
        Check.says(0, "or a value is ADDED, going round, to that of a key, or is the greater (MOST) or the lesser one (LEAST) "
            + "of both, 0 being there without one for ADDED, the value itself for others.");
        changes("ADDED", 9, ADDED, 5, 14);
        changes("ADDED below 0", 9, ADDED, -10, -1);
        changes("ADDED without", N, ADDED, 5, 5);
        changes("ADDED 0 without", N, ADDED, 0, 0);
        changes("MOST, greater", 9, MOST, 10, 10);
        changes("MOST, as great", 9, MOST, 9, 9);
        changes("MOST, lesser", 9, MOST, 8, 9);
        changes("MOST without", N, MOST, -5, -5);
        changes("MOST of 0", 0, MOST, -5, 0);
        changes("LEAST, lesser", 9, LEAST, 8, 8);
        changes("LEAST, as great", 9, LEAST, 9, 9);
        changes("LEAST, greater", 9, LEAST, 10, 9);
        changes("LEAST without", N, LEAST, 5, 5);
        changes("LEAST of 0", 0, LEAST, 5, 0);
        changes("a cleared key has none", N, MOST, -1, -1);
    }

    private static void clearedRange() {
        Check.says(7, "Clears a range.");
        Check.says(7, "`a`: the first number, not -7 to -1");
        Check.says(7, "`b`: the second one, or ABSENT");
        Keyterrace x = new Keyterrace();
        int[][] keys = {{-8, A, A}, {0, A, A}, {1, A, A}, {1, 1, 9999}, {1, 2, A}, {1, 2, -999}, {1, 2, 9999}, {1, 3, A},
            {2, A, A}, {-999, 1, A}, {9999, 9999, 9999}};
        x.begin(0, false);
        for (int[] k : keys) {
            x.change(0, SET, k[0], k[1], k[2], 1);
        }
        x.commit(0);
        x.begin(0, false);
        Check.due("(1, 2)", x.clear(0, 1, 2), 1);
        Check.due("three are gone", x.range(0, A, A, true), 8);
        Check.due("those beside are not", x.range(0, 1, A, true), 3);
        Check.due("(1)", x.clear(0, 1, A), 2);
        Check.due("these, too", x.range(0, A, A, true), 5);
        Check.due("the first below the layers", x.clear(0, -8, A), 3);
        Check.noArgument("the lowest layer", () -> x.clear(0, -7, A));
        Check.noArgument("the highest layer", () -> x.clear(0, -1, A));
        Check.due("the first above them", x.clear(0, 0, A), 4);
        Check.due("the least number", x.clear(0, -999, A), 5);
        Check.due("the greatest", x.clear(0, 9999, A), 6);
        Check.due("the least second one", x.clear(0, 2, -999), 7);
        Check.due("the greatest second one", x.clear(0, 2, 9999), 8);
        Check.due("what is left", x.rangeAt(0, A, A, 0, 0), 2);
        Check.due("that alone", x.range(0, A, A, true), 1);
        Check.due("commit", x.commit(0), 2);
        Check.due("done", x.value(2, 1, 2, 9999), N);
        Check.due("not done", x.value(2, 2, A, A), 1);
    }

    private static void twelveChanges() {
        Check.says(0, "keeps what it changes, in order, at most 12 changes;");
        Check.says(6, "Changes a key.");
        Check.says(6, "Returns how many changes it keeps then.");
        Keyterrace x = new Keyterrace();
        x.begin(0, false);
        for (int i = 1; i <= 12; i++) {
            Check.due("change " + i, x.change(0, i % 7, 1, i, A, 1), i);
        }
        Check.noState("the 13th", () -> x.change(0, SET, 1, 13, A, 1));
        Check.noState("of the same key, too", () -> x.change(0, SET, 1, 1, A, 1));
        Check.noState("a range", () -> x.clear(0, 1, A));
        Check.noState("work", () -> x.offer(0, 1));
        Check.noState("a record", () -> x.save(0, 1, 1));
        Check.noState("a record erased", () -> x.erase(0, 1));
        Check.due("all 12 are done", x.commit(0), 1);
        Check.due("the 11th", x.value(1, 1, 11, A), 1);
        Check.due("the 12th", x.value(1, 1, 12, A), 1);
        Check.says(7, "Returns how many changes it keeps then.");
        x.begin(0, false);
        for (int i = 1; i <= 12; i++) {
            Check.due("clear " + i, x.clear(0, 1, 12), i);
        }
        Check.noState("the 13th", () -> x.clear(0, 1, 12));
        Check.noState("a key, too", () -> x.change(0, CLEARED, 1, 11, A, 0));
        Check.due("done", x.commit(0), 2);
        Check.due("the 11th stays", x.value(2, 1, 11, A), 1);
        Check.says(29, "Returns how many changes it keeps then.");
        x.begin(0, false);
        for (int i = 1; i <= 12; i++) {
            Check.due("offer " + i, x.offer(0, i), i);
        }
        Check.noState("the 13th", () -> x.offer(0, 13));
        Check.due("done", x.commit(0), 3);
        Check.due("the last one", x.value(3, -5, 3, A), 12);
        Check.due("each transaction begins with none", x.begin(0, false), 3);
        Check.due("the first", x.change(0, SET, 1, 1, A, 1), 1);
    }

    private static void inOrder() {
        Check.says(0, "keeps what it changes, in order");
        Keyterrace x = new Keyterrace();
        x.begin(0, false);
        int[][] changes = {{ADDED, 5}, {MOST, 7}, {ADDED, 1}, {LEAST, 6}, {ADDED, -10}};
        int[] due = {5, 7, 8, 6, -4};
        for (int i = 0; i < due.length; i++) {
            x.change(0, changes[i][0], 1, A, A, changes[i][1]);
            Check.due("seen behind " + i, x.get(0, 1, A, A, true), due[i]);
        }
        x.clear(0, 1, A);
        x.change(0, ADDED, 1, A, A, 3);
        x.change(0, SET, 1, 1, A, 3);
        x.change(0, CLEARED, 1, 1, A, 3);
        x.change(0, SET, 1, 2, A, 3);
        Check.due("seen", x.range(0, 1, A, true), 2);
        x.commit(0);
        Check.says(0, "Otherwise the version is 1 more, and its changes come into it, in order.");
        Check.due("1 more", x.version(), 1);
        Check.due("cleared, and then ADDED", x.value(1, 1, A, A), 3);
        Check.due("SET, and then CLEARED", x.value(1, 1, 1, A), N);
        Check.due("SET behind the range", x.value(1, 1, 2, A), 3);
        x.begin(0, false);
        x.change(0, SET, 2, A, A, 5);
        x.change(0, SET, 1, 5, A, 5);
        x.clear(0, 1, A);
        States.put(x, 1, 7, A, 4);
        Check.due("1 more than that of then", x.commit(0), 3);
        Check.due("cleared is what was there then", x.value(3, 1, 7, A), N);
        Check.due("and what was SET ahead of it", x.value(3, 1, 5, A), N);
    }

    private static void arguments() {
        Check.says(6, "`transaction`: 0 to 3");
        Check.says(7, "`transaction`: 0 to 3");
        Keyterrace x = new Keyterrace();
        for (int t = 0; t <= 3; t++) {
            x.begin(t, false);
            Check.due("change", x.change(t, SET, t, A, A, t), 1);
            Check.due("clear", x.clear(t, 5, A), 2);
        }
        Check.says(6, "`kind`: SET to STAMPED_KEY");
        Check.noArgument("-1", () -> x.change(0, -1, 1, A, A, 1));
        Check.due("SET", x.change(0, SET, 1, A, A, 1), 3);
        Check.due("STAMPED_KEY", x.change(0, STAMPED_KEY, 1, A, A, 1), 4);
        Check.noArgument("7", () -> x.change(0, 7, 1, A, A, 1));
        Check.says(6, "`a`: its first number");
        Check.says(6, "`b`: its second one, or ABSENT");
        Check.says(6, "`c`: its third one, or ABSENT");
        Check.due("(1)", x.change(0, SET, 1, A, A, 11), 5);
        Check.due("(1, 2)", x.change(0, SET, 1, 2, A, 12), 6);
        Check.due("(1, 2, 3)", x.change(0, SET, 1, 2, 3, 13), 7);
        Check.due("(1)", x.get(0, 1, A, A, true), 11);
        Check.due("(1, 2)", x.get(0, 1, 2, A, true), 12);
        Check.due("(1, 2, 3)", x.get(0, 1, 2, 3, true), 13);
        Check.says(6, "`value`: -1000000 to 1000000; it does not matter for CLEARED and STAMPED_VALUE");
        for (int kind : new int[] {SET, ADDED, MOST, LEAST, STAMPED_KEY}) {
            x.begin(1, false);
            Check.due("the least", x.change(1, kind, 4, A, A, -1000000), 1);
            Check.due("the greatest", x.change(1, kind, 4, 1, A, 1000000), 2);
            Check.noArgument("one less", () -> x.change(1, kind, 4, A, A, -1000001));
            Check.noArgument("one more", () -> x.change(1, kind, 4, A, A, 1000001));
            if (kind != STAMPED_KEY) {
                Check.due("the least is there", x.get(1, 4, A, A, true), -1000000);
                Check.due("the greatest is there", x.get(1, 4, 1, A, true), 1000000);
            }
        }
        x.begin(1, false);
        int[] any = {1000001, -1000001, N, MAX};
        for (int i = 0; i < any.length; i++) {
            Check.due("CLEARED", x.change(1, CLEARED, 4, A, A, any[i]), 2 * i + 1);
            Check.due("STAMPED_VALUE", x.change(1, STAMPED_VALUE, 4, A, A, any[i]), 2 * i + 2);
        }
        Check.due("commit", x.commit(1), 1);
        Check.due("the version", x.value(1, 4, A, A), 1);
    }

    private static void layers() {
        Check.says(0, "Keys whose first number is -7 to -1 are those of the layers below: change() and clear() do not change "
            + "them (IllegalArgumentException), nor all keys at all.");
        Keyterrace x = new Keyterrace();
        x.begin(0, false);
        Check.due("-8 is no layer", x.change(0, SET, -8, 1, A, 1), 1);
        Check.due("its range", x.clear(0, -8, 1), 2);
        for (int a = -7; a <= -1; a++) {
            int layer = a;
            for (int kind = SET; kind <= STAMPED_KEY; kind++) {
                int which = kind;
                Check.noArgument("the layer " + a, () -> x.change(0, which, layer, 1, A, 1));
            }
            Check.noArgument("with one number", () -> x.change(0, SET, layer, A, A, 1));
            Check.noArgument("with three numbers", () -> x.change(0, SET, layer, 1, 1, 1));
            Check.noArgument("its range", () -> x.clear(0, layer, A));
            Check.noArgument("its range of two", () -> x.clear(0, layer, 1));
            Check.due("it can be read", x.range(0, layer, A, true), 0);
            Check.due("its keys, too", x.get(0, layer, 1, A, true), N);
        }
        Check.due("0 is no layer", x.change(0, SET, 0, 1, A, 1), 3);
        Check.due("its range", x.clear(0, 0, 1), 4);
        Check.due("-1 behind the first number", x.change(0, SET, 1, -1, -7, 1), 5);
        Check.noArgument("all keys at all", () -> x.clear(0, A, A));
        Check.due("nothing more was kept", x.change(0, SET, 1, 1, 1, 1), 6);
    }

    private static void goingRound() {
        Check.says(0, "A value is a whole number of 32 bits (that which is told as NONE, too, if it comes to be that).");
        Keyterrace x = new Keyterrace();
        for (int i = 0; i < 5; i++) {
            addMillions(x, 31);
        }
        addMillions(x, 23);
        Check.due("12 millions, 178 times", x.value(178, 1, A, A), 2136000000);
        x.begin(0, false);
        for (int i = 0; i < 11; i++) {
            x.change(0, ADDED, 1, A, A, 1000000);
        }
        x.change(0, ADDED, 1, A, A, 483647);
        x.commit(0);
        Check.due("the greatest", x.value(179, 1, A, A), MAX);
        x.watch(1, A, A);
        x.begin(1, false);
        x.change(1, ADDED, 1, A, A, 1);
        Check.due("1 more goes round to what is told as NONE", x.get(1, 1, A, A, true), N);
        Check.due("it is a value", x.range(1, 1, A, true), 1);
        x.change(1, MOST, 1, A, A, -1000000);
        Check.due("any other is greater", x.get(1, 1, A, A, true), -1000000);
        x.begin(1, false);
        x.change(1, ADDED, 1, A, A, 1);
        x.change(1, LEAST, 1, A, A, -1000000);
        Check.due("none is lesser", x.get(1, 1, A, A, true), N);
        int done = x.commit(1);
        Check.due("told", x.value(done, 1, A, A), N);
        Check.due("a watch sees it", x.fired(0), done);
        Check.due("a part has it", x.part(0, 1), 1);
        x.begin(1, false);
        Check.due("get", x.get(1, 1, A, A, true), N);
        Check.due("range", x.range(1, 1, A, true), 1);
        Check.due("rangeAt", x.rangeAt(1, 1, A, 0, 0), 1);
        x.change(1, ADDED, 1, A, A, -1);
        Check.due("1 less goes round to the greatest", x.get(1, 1, A, A, true), MAX);
    }

    /** Adds 12 millions by each of some commits, at most 31: their answers are LOST, as that takes the fewest calls. */
    private static void addMillions(Keyterrace x, int commits) {
        x.begin(0, false);
        for (int i = 0; i < 12; i++) {
            x.change(0, ADDED, 1, A, A, 1000000);
        }
        for (int i = 0; i < commits; i++) {
            x.lose(true);
            x.commit(0);
        }
    }

    private static void stampedKeys() {
        Check.says(0, "A key that is STAMPED has the version of the commit in place of its last number, whatever that is told "
            + "as;");
        Keyterrace x = new Keyterrace();
        x.pass(4);
        x.begin(0, false);
        x.change(0, STAMPED_KEY, -999, A, A, 1);
        x.change(0, STAMPED_KEY, 20, -999, A, 2);
        x.change(0, STAMPED_KEY, 30, 9999, A, 3);
        x.change(0, STAMPED_KEY, 40, 1, -999, 4);
        x.change(0, STAMPED_KEY, 40, 2, 9999, 5);
        Check.due("commit", x.commit(0), 5);
        Check.due("of one number", x.value(5, 5, A, A), 1);
        Check.due("of two", x.value(5, 20, 5, A), 2);
        Check.due("of two, told as the greatest", x.value(5, 30, 5, A), 3);
        Check.due("of three", x.value(5, 40, 1, 5), 4);
        Check.due("of three, told as the greatest", x.value(5, 40, 2, 5), 5);
        x.begin(0, false);
        Check.due("no others", x.range(0, A, A, true), 5);
        Check.says(0, "STAMPED keys are not seen, nor changed by it, as they come last, behind all other changes, in their "
            + "order.");
        x.change(0, STAMPED_KEY, 20, 6, A, 60);
        x.change(0, STAMPED_KEY, 20, 7, A, 70);
        Check.due("not seen as it is told", x.get(0, 20, 6, A, true), N);
        Check.due("not seen in its range", x.range(0, 20, A, true), 1);
        Check.due("not as the last of these", x.rangeAt(0, 20, A, 1, 0), N);
        x.change(0, SET, 20, 6, A, 1);
        x.change(0, ADDED, 20, 6, A, 1);
        x.clear(0, 20, A);
        Check.due("commit", x.commit(0), 6);
        Check.due("the last of two, not changed by what is behind", x.value(6, 20, 6, A), 70);
        Check.due("the other one was cleared", x.value(6, 20, 5, A), N);
        x.begin(0, false);
        x.change(0, STAMPED_KEY, 20, 0, A, 1);
        x.change(0, SET, 20, 7, A, 500);
        Check.due("commit", x.commit(0), 7);
        Check.due("not what was SET behind it", x.value(7, 20, 7, A), 1);
    }

    private static void stampedValues() {
        Check.says(0, "a key whose value is STAMPED gets that.");
        Keyterrace x = new Keyterrace();
        States.put(x, 1, 1, A, 500);
        x.begin(0, false);
        x.change(0, STAMPED_VALUE, 1, 1, A, 77);
        x.change(0, STAMPED_VALUE, 1, 2, A, 77);
        x.change(0, STAMPED_VALUE, 1, 3, A, 77);
        x.change(0, ADDED, 1, 3, A, 100);
        x.change(0, STAMPED_VALUE, 1, 4, A, 77);
        x.change(0, MOST, 1, 4, A, 1);
        x.change(0, STAMPED_VALUE, 1, 5, A, 77);
        x.change(0, LEAST, 1, 5, A, 1);
        Check.due("commit", x.commit(0), 2);
        int[] due = {2, 2, 102, 2, 1};
        for (int i = 0; i < due.length; i++) {
            Check.due("(1, " + (i + 1) + ")", x.value(2, 1, i + 1, A), due[i]);
        }
        Check.says(0, "A key with a STAMPED value cannot be read in the transaction, until it is set or cleared again, and is "
            + "not seen in ranges;");
        x.begin(0, false);
        x.change(0, STAMPED_VALUE, 1, 1, A, 77);
        Check.noState("STAMPED", () -> x.get(0, 1, 1, A, true));
        Check.due("not in ranges", x.range(0, 1, A, true), 4);
        Check.due("the first is another one", x.rangeAt(0, 1, A, 0, 1), 2);
        for (int kind : new int[] {ADDED, MOST, LEAST, STAMPED_VALUE}) {
            x.change(0, kind, 1, 1, A, 1);
            Check.noState("and then " + kind, () -> x.get(0, 1, 1, A, false));
            Check.due("not in ranges either", x.range(0, 1, A, true), 4);
        }
        x.change(0, SET, 1, 1, A, 8);
        Check.due("SET again", x.get(0, 1, 1, A, true), 8);
        Check.due("in ranges", x.range(0, 1, A, true), 5);
        x.change(0, STAMPED_VALUE, 1, 1, A, 77);
        x.change(0, CLEARED, 1, 1, A, 0);
        Check.due("CLEARED again", x.get(0, 1, 1, A, true), N);
        x.change(0, STAMPED_VALUE, 1, 1, A, 77);
        x.clear(0, 1, A);
        Check.due("cleared by a range", x.get(0, 1, 1, A, true), N);
        x.change(0, ADDED, 1, 1, A, 3);
        Check.due("and then ADDED", x.get(0, 1, 1, A, true), 3);
        x.begin(1, false);
        x.change(1, STAMPED_VALUE, 1, 1, A, 77);
        x.change(1, STAMPED_KEY, 1, 1, A, 77);
        Check.due("other transactions see none of it", x.get(0, 1, 1, A, true), 3);
        Check.due("the version has none of it", x.value(2, 1, 1, A), 2);
    }

    public static void main(String[] args) {
        kinds();
        clearedRange();
        twelveChanges();
        inOrder();
        arguments();
        layers();
        goingRound();
        stampedKeys();
        stampedValues();
        Check.end();
    }
}
