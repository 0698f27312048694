/** The edges of keys, values, versions and ranges: Terms, and the promises 1, 13 to 15. */
public final class KeyEdgesTest {
    private static final int A = Keyterrace.ABSENT, N = Keyterrace.NONE, MAX = Integer.MAX_VALUE;
    /** Keys in their order; a beginning is ahead of what it begins, and what is below 0 ahead of what is not. */
    private static final int[][] IN_ORDER = {
        {-999, A, A}, {-999, -999, A}, {-999, -999, -999}, {-999, -999, 9999}, {-999, -998, A}, {-999, -1, A},
        {-999, 0, A}, {-999, 9999, 9999}, {-998, A, A}, {-901, A, A}, {-900, A, A}, {-899, A, A}, {-101, A, A},
        {-100, A, A}, {-99, A, A}, {-8, A, A}, {-8, 9999, 9999}, {0, A, A}, {0, -999, A}, {0, -1, 9999}, {0, 0, A},
        {0, 0, -999}, {0, 0, -1}, {0, 0, 0}, {0, 0, 9999}, {0, 1, A}, {0, 9999, A}, {0, 9999, -999}, {1, A, A},
        {1, 1, A}, {1, 1, 1}, {9, A, A}, {10, A, A}, {99, A, A}, {100, A, A}, {101, A, A}, {199, A, A}, {200, A, A},
        {999, A, A}, {1000, A, A}, {9899, A, A}, {9900, A, A}, {9999, A, A}, {9999, -999, A}, {9999, 9999, A},
        {9999, 9999, -1}, {9999, 9999, 9999},
    };

    /** A call with a key. */
    private interface KeyCall {
        void of(Keyterrace x, int a, int b, int c);
    }

    private static final KeyCall[] KEY_CALLS = {
        (x, a, b, c) -> x.get(0, a, b, c, true),
        (x, a, b, c) -> x.change(0, Keyterrace.SET, a, b, c, 1),
        (x, a, b, c) -> x.value(0, a, b, c),
        (x, a, b, c) -> x.packed(a, b, c, 0),
        (x, a, b, c) -> x.watch(a, b, c),
    };

    private static void keys(int[][] allowed, int[][] refused) {
        for (int i = 0; i < KEY_CALLS.length; i++) {
            KeyCall call = KEY_CALLS[i];
            Keyterrace x = new Keyterrace();
            x.begin(0, false);
            for (int[] k : allowed) {
                call.of(x, k[0], k[1], k[2]);
            }
            for (int[] k : refused) {
                Check.noArgument("call " + i + " of " + k[0] + " " + k[1] + " " + k[2],
                    () -> call.of(x, k[0], k[1], k[2]));
            }
        }
    }

    private static void rowsOfNumbers() {
        Check.says(0, "A key is a row of 1 to 3 numbers");
        keys(new int[][] {{1, A, A}, {1, 1, A}, {1, 1, 1}}, new int[][] {{A, A, A}});
        Check.says(0, "-999 to 9999, told as three");
        keys(new int[][] {{-999, A, A}, {9999, A, A}},
            new int[][] {{-1000, A, A}, {10001, A, A}, {N, A, A}, {MAX, A, A}});
        keys(new int[][] {{1, -999, A}, {1, 9999, A}, {1, -999, 1}, {1, 9999, 1}},
            new int[][] {{1, -1000, A}, {1, 10001, A}, {1, N, A}, {1, MAX, A}, {1, -1000, 1}, {1, 10001, 1}});
        keys(new int[][] {{1, 1, -999}, {1, 1, 9999}},
            new int[][] {{1, 1, -1000}, {1, 1, 10001}, {1, 1, N}, {1, 1, MAX}});
        Check.says(0, "told as three with ABSENT for those that are not there, behind the others.");
        keys(new int[][] {}, new int[][] {{A, 1, A}, {A, A, 1}, {A, 1, 1}, {1, A, 1}, {1, A, -1000}, {1, A, 10001}});
        Check.says(3, "`a`: its first number");
        Check.says(3, "`b`: its second one, or ABSENT");
        Check.says(3, "`c`: its third one, or ABSENT");
        Keyterrace x = new Keyterrace();
        States.put(x, 1, A, A, 10);
        States.put(x, 1, 2, A, 20);
        States.put(x, 1, 2, 3, 30);
        x.begin(0, false);
        Check.due("(1)", x.get(0, 1, A, A, true), 10);
        Check.due("(1, 2)", x.get(0, 1, 2, A, true), 20);
        Check.due("(1, 2, 3)", x.get(0, 1, 2, 3, true), 30);
        Check.due("(1, 3)", x.get(0, 1, 3, A, true), N);
        Check.due("(2, 1)", x.get(0, 2, 1, A, true), N);
        Check.says(13, "`a`: its first number");
        Check.says(13, "`b`: its second one, or ABSENT");
        Check.says(13, "`c`: its third one, or ABSENT");
        Check.due("(1)", x.value(3, 1, A, A), 10);
        Check.due("(1, 2)", x.value(3, 1, 2, A), 20);
        Check.due("(1, 2, 3)", x.value(3, 1, 2, 3), 30);
        Check.due("(1, 3, 2)", x.value(3, 1, 3, 2), N);
    }

    private static void packedIs(int number, int first, int second, int third) {
        Keyterrace x = new Keyterrace();
        int[] due = {first, second, third};
        for (int place = 0; place < 3; place++) {
            Check.due("byte " + place + " of " + number, x.packed(number, A, A, place), due[place]);
            Check.due("byte " + place + " of the second " + number, x.packed(0, number, A, 3 + place), due[place]);
            Check.due("byte " + place + " of the third " + number, x.packed(0, 1, number, 6 + place), due[place]);
        }
    }

    private static void bytes() {
        Check.says(0, "It is packed into 3 bytes for each number: 1 if it is below 0, otherwise 2;");
        packedIs(-1, 1, 9, 99);
        packedIs(0, 2, 0, 0);
        packedIs(1, 2, 0, 1);
        Check.says(0, "then, of the number, 1000 more if it is below 0, the quotient by 100, and the remainder.");
        packedIs(-999, 1, 0, 1);
        packedIs(-901, 1, 0, 99);
        packedIs(-900, 1, 1, 0);
        packedIs(-101, 1, 8, 99);
        packedIs(-100, 1, 9, 0);
        packedIs(-99, 1, 9, 1);
        packedIs(99, 2, 0, 99);
        packedIs(100, 2, 1, 0);
        packedIs(9899, 2, 98, 99);
        packedIs(9900, 2, 99, 0);
        packedIs(9999, 2, 99, 99);
        Check.says(14, "`a`: its first number");
        Check.says(14, "`b`: its second one, or ABSENT");
        Check.says(14, "`c`: its third one, or ABSENT");
        Keyterrace x = new Keyterrace();
        int[] due = {2, 12, 34, 1, 4, 33, 2, 0, 7};
        for (int place = 0; place < due.length; place++) {
            Check.due("(1234, -567, 7) at " + place, x.packed(1234, -567, 7, place), due[place]);
        }
        Check.says(14, "`place`: from 0");
        Check.due("the first byte", x.packed(-5, A, A, 0), 1);
        Check.noPlace("-1", () -> x.packed(-5, A, A, -1));
        Check.says(14, "Returns the byte, NONE behind the last one.");
        Check.due("the last of one number", x.packed(12, A, A, 2), 12);
        Check.due("behind it", x.packed(12, A, A, 3), N);
        Check.due("the last of two", x.packed(12, 13, A, 5), 13);
        Check.due("behind it", x.packed(12, 13, A, 6), N);
        Check.due("the last of three", x.packed(12, 13, 14, 8), 14);
        Check.due("behind it", x.packed(12, 13, 14, 9), N);
        Check.due("far behind", x.packed(12, 13, 14, MAX), N);
        Check.says(14, "Returns a byte of a packed key.");
        Check.due("of a key that has no value", x.packed(8, 8, 8, 4), 0);
    }

    private static void order() {
        Check.says(0, "Keys are in the order of these bytes, one that is the beginning of another one ahead of it.");
        Keyterrace x = new Keyterrace();
        for (int i = 0; i < IN_ORDER.length; i += 12) {
            x.begin(0, false);
            for (int j = i; j < i + 12 && j < IN_ORDER.length; j++) {
                int[] k = IN_ORDER[(j * 29 + 11) % IN_ORDER.length];
                x.change(0, Keyterrace.SET, k[0], k[1], k[2], j);
            }
            x.commit(0);
        }
        x.begin(0, false);
        Check.due("all", x.range(0, A, A, true), IN_ORDER.length);
        for (int i = 0; i < IN_ORDER.length; i++) {
            for (int what = 0; what < 3; what++) {
                Check.due("number " + what + " of the key " + i, x.rangeAt(0, A, A, i, what), IN_ORDER[i][what]);
            }
        }
        Check.due("behind the last one", x.rangeAt(0, A, A, IN_ORDER.length, 0), N);
    }

    private static void ranges() {
        Check.says(0, "A range is all keys that begin with one or two numbers, that which has just these too, or all keys "
            + "at all.");
        Keyterrace x = new Keyterrace();
        int[][] inOne = {{5, A, A}, {5, -999, A}, {5, -999, -999}, {5, 0, A}, {5, 9999, 9999}};
        int[][] inTwo = {{5, 7, A}, {5, 7, -999}, {5, 7, -1}, {5, 7, 0}, {5, 7, 9999}};
        int[][] beside = {{4, 9999, 9999}, {6, A, A}, {6, -999, -999}, {-999, A, A}, {9999, 9999, 9999}};
        int[][] besideTwo = {{5, 6, A}, {5, 6, 9999}, {5, 8, A}, {5, 8, -999}};
        for (int[][] some : new int[][][] {inOne, inTwo, beside, besideTwo}) {
            x.begin(0, false);
            for (int[] k : some) {
                x.change(0, Keyterrace.SET, k[0], k[1], k[2], 1);
            }
            x.commit(0);
        }
        x.begin(0, false);
        Check.due("of one number", x.range(0, 5, A, true), 14);
        Check.due("its first key", x.rangeAt(0, 5, A, 0, 1), A);
        Check.due("its last key", x.rangeAt(0, 5, A, 13, 2), 9999);
        Check.due("behind that", x.rangeAt(0, 5, A, 14, 0), N);
        Check.due("of two numbers", x.range(0, 5, 7, true), 5);
        Check.due("its first key", x.rangeAt(0, 5, 7, 0, 2), A);
        Check.due("its last key", x.rangeAt(0, 5, 7, 4, 2), 9999);
        Check.due("behind that", x.rangeAt(0, 5, 7, 5, 0), N);
        Check.due("all keys at all", x.range(0, A, A, true), 19);
        Check.due("their first one", x.rangeAt(0, A, A, 0, 0), -999);
        Check.due("their last one", x.rangeAt(0, A, A, 18, 2), 9999);
        Check.due("of the least number", x.range(0, -999, A, true), 1);
        Check.due("of the greatest number", x.range(0, 9999, A, true), 1);
        Check.due("of the greatest two", x.range(0, 9999, 9999, true), 1);
        Check.due("of the least of two", x.range(0, 5, -999, true), 2);
        Check.due("without keys", x.range(0, 7, A, true), 0);
    }

    private static void versions() {
        Check.says(1, "No keys, the version and the generation 0.");
        Keyterrace x = new Keyterrace();
        Check.due("the version", x.version(), 0);
        x.begin(0, false);
        Check.due("keys", x.range(0, A, A, false), 0);
        x.change(0, Keyterrace.SET, 1, A, A, 1);
        Check.due("no generation between", x.commit(0), 1);
        Check.says(0, "Versions begin with 0, in which no key has one.");
        Check.due("a key in the version 0", x.value(0, 1, A, A), N);
        Check.due("the least key", new Keyterrace().value(0, -999, A, A), N);
        Check.says(0, "A key has a value, or none, in each version.");
        x.pass(2);
        States.clearKey(x, 1, A, A);
        States.put(x, 1, A, A, 7);
        int[] due = {N, 1, 1, 1, N, 7};
        for (int version = 0; version < due.length; version++) {
            Check.due("in the version " + version, x.value(version, 1, A, A), due[version]);
            Check.due("another key", x.value(version, 1, 0, A), N);
        }
        Check.says(13, "`version`: 0 to that of now");
        Check.noArgument("-1", () -> x.value(-1, 1, A, A));
        Check.due("0", x.value(0, 1, A, A), N);
        Check.due("that of now", x.value(5, 1, A, A), 7);
        Check.noArgument("one more", () -> x.value(6, 1, A, A));
        x.pass(1);
        Check.due("not once it went by", x.value(6, 1, A, A), 7);
        Check.says(13, "Returns the value of a key in a version.");
        Check.due("the value then", x.value(3, 1, A, A), 1);
        Check.says(13, "Returns the value, NONE without.");
        Check.due("a value", x.value(1, 1, A, A), 1);
        Check.due("none", x.value(4, 1, A, A), N);
        Check.says(15, "Returns the version of now.");
        Check.due("now", x.version(), 6);
        x.recover();
        Check.due("behind a recovery", x.version(), 16);
        States.put(x, 1, A, A, 7);
        Check.due("behind a commit", x.version(), 17);
    }

    private static void constants() {
        Check.says(0, "`NONE = Integer.MIN_VALUE`: There is none;");
        Check.says(0, "no value.");
        Check.due("NONE", Keyterrace.NONE, -2147483648L);
        Check.says(0, "`ABSENT = 10000`: A number that a key does not have.");
        Check.due("ABSENT", Keyterrace.ABSENT, 10000);
        Check.says(0, "`CONFLICT = -1, TOO_OLD = -2, LOST = -3`: What becomes of commits.");
        int[] outcomes = {Keyterrace.CONFLICT, Keyterrace.TOO_OLD, Keyterrace.LOST};
        for (int i = 0; i < outcomes.length; i++) {
            Check.due("the outcome " + i, outcomes[i], -1 - i);
        }
        Check.says(0, "`SET = 0, CLEARED = 1, ADDED = 2, MOST = 3, LEAST = 4, STAMPED_VALUE = 5, STAMPED_KEY = 6`: "
            + "Changes.");
        int[] kinds = {Keyterrace.SET, Keyterrace.CLEARED, Keyterrace.ADDED, Keyterrace.MOST, Keyterrace.LEAST,
            Keyterrace.STAMPED_VALUE, Keyterrace.STAMPED_KEY};
        for (int i = 0; i < kinds.length; i++) {
            Check.due("the kind " + i, kinds[i], i);
        }
    }

    /** 512 calls of an object: its versions come to be far above what a stamp or a lease must hold. */
    private static void fiveHundredAndTwelveCalls() {
        Check.says(0, "An object is used for at most 512 calls after it has been made");
        Keyterrace x = new Keyterrace();
        for (int i = 0; i < 499; i++) {
            x.pass(10);
        }
        Check.due("begin", x.begin(0, false), 4990);
        x.change(0, Keyterrace.STAMPED_KEY, 1, 1, A, 7);
        x.offer(0, 9);
        Check.due("commit", x.commit(0), 4991);
        Check.due("the stamp", x.value(4991, 1, 4991, A), 7);
        Check.due("work", x.take(2), 9);
        Check.due("its lease", x.value(4992, -7, 4991, A), 25002);
        Check.due("recover", x.recover(), 5002);
        Check.due("the lease is over", x.take(1), 9);
        Check.due("of another one", x.value(5003, -7, 4991, A), 15013);
        Check.due("finish", x.finish(1), 9);
        Check.due("pass", x.pass(10), 5014);
        Check.due("the 512th: version", x.version(), 5014);
    }

    public static void main(String[] args) {
        rowsOfNumbers();
        bytes();
        order();
        ranges();
        versions();
        constants();
        fiveHundredAndTwelveCalls();
        Check.end();
    }
}
