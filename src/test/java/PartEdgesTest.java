/** The edges of parts and marks: Terms, and the promises 32 to 35. */
public final class PartEdgesTest {
    private static final int A = Keyterrace.ABSENT, N = Keyterrace.NONE;
    private static final int SET = Keyterrace.SET, CLEARED = Keyterrace.CLEARED;

    /** Each part is told as server, keys, and the second number of the key with which it begins. */
    private static void parts(String what, Keyterrace x, int... due) {
        Check.due(what + ": how many", x.parts(), due.length / 3);
        for (int i = 0; i < due.length / 3 && i < x.parts(); i++) {
            Check.due(what + ": server of " + i, x.part(i, 0), due[3 * i]);
            Check.due(what + ": keys of " + i, x.part(i, 1), due[3 * i + 1]);
            Check.due(what + ": beginning of " + i, x.part(i, 3), due[3 * i + 2]);
        }
    }

    /** Clears keys (1, b) by one commit. */
    private static void clearKeys(Keyterrace x, int... seconds) {
        x.begin(3, false);
        for (int b : seconds) {
            x.change(3, CLEARED, 1, b, A, 0);
        }
        x.commit(3);
    }

    private static void atFirst() {
        Check.says(0, "Keys with a value are parted by keys;");
        Check.says(0, "at first there is one part, of the server 0.");
        Check.says(32, "Returns how many parts there are.");
        Check.says(33, "Tells something of a part.");
        Check.says(33, "`place`: 0 for the first one");
        Check.says(33, "`what`: 0 its server; 1 how many keys with a value it has; 2 to 4 the numbers of the key with which it "
            + "begins, or ABSENT; NONE for the first one");
        Check.says(33, "Returns the number.");
        Keyterrace x = new Keyterrace();
        Check.due("one part", x.parts(), 1);
        Check.due("its server", x.part(0, 0), 0);
        Check.due("its keys", x.part(0, 1), 0);
        for (int what = 2; what <= 4; what++) {
            Check.due("no beginning", x.part(0, what), N);
        }
        Check.noPlace("no second one", () -> x.part(1, 0));
        Check.noPlace("none ahead of the first", () -> x.part(-1, 0));
        Check.noArgument("no -1", () -> x.part(0, -1));
        Check.noArgument("no 5", () -> x.part(0, 5));
        x.begin(0, false);
        x.change(0, SET, 1, A, A, 1);
        x.change(0, SET, 1, 1, A, 1);
        x.change(0, SET, 1, 1, 1, 1);
        x.change(0, SET, 1, 1, 2, 1);
        x.change(0, SET, 2, -9, 3, 1);
        for (int b = 1; b <= 4; b++) {
            x.change(0, SET, 3, b, A, 1);
        }
        x.change(0, SET, 4, A, A, 1);
        x.change(0, CLEARED, 4, A, A, 1);
        Check.due("what is not committed", x.part(0, 1), 0);
        x.commit(0);
        Check.due("9 keys", x.parts(), 2);
        int[] due = {1, 5, 2, -9, 3};
        for (int what = 0; what <= 4; what++) {
            Check.due("of the second part, " + what, x.part(1, what), due[what]);
        }
        Check.due("keys of the first", x.part(0, 1), 4);
        Check.due("it has no beginning", x.part(0, 2), N);
        Check.noPlace("no third one", () -> x.part(2, 0));
        Check.noArgument("no 5", () -> x.part(1, 5));
        Keyterrace y = new Keyterrace();
        States.fill(y, 1, 1, 4);
        for (int a = 5; a <= 9; a++) {
            States.put(y, a, A, A, 1);
        }
        Check.due("the first number", y.part(1, 2), 5);
        Check.due("no second one", y.part(1, 3), A);
        Check.due("no third one", y.part(1, 4), A);
    }

    private static void moreThanEight() {
        Check.says(0, "Behind each commit: as long as a part has more than 8 of these keys, the first such one is split ahead of "
            + "the fifth of them:");
        Keyterrace x = new Keyterrace();
        States.fill(x, 1, 1, 8);
        parts("8", x, 0, 8, N);
        States.fill(x, 1, 8, 8);
        parts("8 still", x, 0, 8, N);
        States.put(x, 1, 0, A, 1);
        parts("9", x, 0, 4, N, 1, 5, 4);
        States.fill(x, 1, 9, 11);
        parts("8 in the second", x, 0, 4, N, 1, 8, 4);
        States.fill(x, 1, 12, 12);
        parts("9 in the second", x, 0, 4, N, 1, 4, 4, 2, 5, 8);
        x.begin(0, false);
        for (int b = -10; b <= -1; b++) {
            x.change(0, SET, 1, b, A, 1);
        }
        x.commit(0);
        parts("14 in the first", x, 0, 4, N, 0, 4, -6, 1, 6, -2, 1, 4, 4, 2, 5, 8);
        Keyterrace y = new Keyterrace();
        States.fill(y, 1, 1, 12);
        parts("12 by one commit", y, 0, 4, N, 1, 8, 5);
        Keyterrace z = new Keyterrace();
        z.begin(0, false);
        for (int b = 1; b <= 11; b++) {
            z.change(0, SET, 1, b, A, 1);
        }
        z.save(0, 1, 1);
        z.commit(0);
        parts("15 by one commit, four of the layers", z, 0, 4, N, 1, 4, 1, 2, 7, 5);
    }

    private static void servers() {
        Check.says(0, "from that on it is a new part, of the server, 0 to 2, with the fewest parts, of several the lowest one;");
        Keyterrace x = new Keyterrace();
        States.fill(x, 1, 1, 8);
        int[] due = {0, 1, 2, 0, 1, 2, 0};
        for (int i = 1; i < due.length; i++) {
            States.fill(x, 1, 4 * i + 5, 4 * i + 8);
            Check.due("parts", x.parts(), i + 1);
            Check.due("the server of the part " + i, x.part(i, 0), due[i]);
            Check.due("where it begins", x.part(i, 3), 4 * i + 1);
        }
        Keyterrace y = new Keyterrace();
        States.fill(y, 1, 1, 12);
        States.fill(y, 1, 13, 16);
        parts("0, 1, 2", y, 0, 4, N, 1, 4, 5, 2, 8, 9);
        clearKeys(y, 1, 2, 3, 4, 5);
        parts("the server 1 goes with its part", y, 0, 3, N, 2, 8, 9);
        States.fill(y, 1, 17, 17);
        parts("it has the fewest", y, 0, 3, N, 2, 4, 9, 1, 5, 13);
    }

    private static void fewerThanFour() {
        Check.says(0, "then, as long as two parts, one behind the other, have fewer than 4 together, the first such two are one, "
            + "of the server of the first one.");
        Keyterrace x = new Keyterrace();
        States.fill(x, 1, 1, 12);
        States.fill(x, 1, 13, 16);
        parts("three", x, 0, 4, N, 1, 4, 5, 2, 8, 9);
        clearKeys(x, 1, 2, 5, 6);
        parts("2 and 2 are 4", x, 0, 2, N, 1, 2, 5, 2, 8, 9);
        clearKeys(x, 3);
        parts("1 and 2 are 3", x, 0, 3, N, 2, 8, 9);
        Keyterrace y = new Keyterrace();
        States.fill(y, 1, 1, 12);
        States.fill(y, 1, 13, 16);
        clearKeys(y, 5, 6, 7, 8);
        parts("4 and 0 are 4", y, 0, 4, N, 1, 0, 5, 2, 8, 9);
        clearKeys(y, 10, 11, 12, 13, 14, 15, 16);
        parts("0 and 1: the second and the third are one", y, 0, 4, N, 1, 1, 5);
        clearKeys(y, 1);
        parts("3 and 1 are 4", y, 0, 3, N, 1, 1, 5);
        clearKeys(y, 2);
        parts("2 and 1 are one", y, 0, 3, N);
        Keyterrace z = new Keyterrace();
        States.fill(z, 1, 1, 12);
        States.fill(z, 1, 13, 16);
        clearKeys(z, 1, 2, 3, 5, 6, 7, 8, 9, 10, 11, 12, 13);
        parts("1 and 0 first, and then 1 and 3 are 4", z, 0, 1, N, 2, 3, 9);
        clearKeys(z, 16);
        parts("1 and 2", z, 0, 3, N);
        z.begin(0, false);
        z.clear(0, 1, A);
        z.commit(0);
        parts("no keys", z, 0, 0, N);
        Keyterrace w = new Keyterrace();
        States.fill(w, 1, 1, 12);
        States.fill(w, 1, 13, 20);
        parts("four", w, 0, 4, N, 1, 4, 5, 2, 4, 9, 0, 8, 13);
        States.clearRange(w, 1, A);
        parts("all are one", w, 0, 0, N);
        bothByOneCommit();
    }

    private static void bothByOneCommit() {
        Keyterrace x = new Keyterrace();
        States.fill(x, 1, 1, 12);
        x.begin(0, false);
        for (int b = 1; b <= 4; b++) {
            x.change(0, CLEARED, 1, b, A, 0);
        }
        x.change(0, CLEARED, 1, 6, A, 0);
        for (int b = 13; b <= 18; b++) {
            x.change(0, SET, 1, b, A, 1);
        }
        x.commit(0);
        parts("13 are split ahead of what is joined", x, 0, 0, N, 1, 4, 5, 2, 4, 10, 0, 5, 14);
    }

    private static void byAllCommits() {
        Check.says(0, "Behind each commit:");
        Keyterrace x = new Keyterrace();
        for (int i = 1; i <= 4; i++) {
            States.offered(x, i);
        }
        States.fill(x, 1, 1, 4);
        Check.due("8 keys", x.part(0, 1), 8);
        x.take(0);
        Check.due("the 9th by take", x.parts(), 2);
        Check.due("begins", x.part(1, 2), -5);
        Check.due("begins", x.part(1, 3), 4);
        x.off(0);
        Check.due("the 10th by off", x.part(0, 1) + x.part(1, 1), 10);
        x.build(0, 1);
        Check.due("it stays by build", x.part(0, 1) + x.part(1, 1), 10);
        x.finish(0);
        Check.due("two fewer by finish", x.part(0, 1) + x.part(1, 1), 8);
        x.directory(0, 1);
        x.remove(1);
        Check.due("four fewer by remove", x.part(0, 1) + x.part(1, 1), 4);
        x.mark();
        States.clearRange(x, 1, A);
        x.bringBack(0);
        Check.due("as many", x.part(0, 1) + x.part(1, 1), 4);
        x.mark();
        Keyterrace y = new Keyterrace();
        y.mark();
        States.fill(y, 1, 1, 12);
        Check.due("parts", y.parts(), 2);
        y.bringBack(0);
        Check.due("joined by bringBack", y.parts(), 1);
        y.lose(false);
        States.fill(y, 1, 1, 12);
        Check.due("not by what is not done", y.parts(), 1);
        y.lose(true);
        y.commit(3);
        Check.due("but by what is LOST and done", y.parts(), 2);
    }

    private static void tenMarks() {
        Check.says(34, "Marks the version of now.");
        Check.says(34, "Returns the number of the mark, from 0.");
        Keyterrace x = new Keyterrace();
        Check.noPlace("none at first", () -> x.bringBack(0));
        for (int i = 0; i < 10; i++) {
            int next = i + 1;
            States.put(x, 1, A, A, i);
            Check.due("mark", x.mark(), i);
            Check.noPlace("not the next", () -> x.bringBack(next));
        }
        Check.noState("the 11th", () -> x.mark());
        Check.noPlace("is none", () -> x.bringBack(10));
        Check.noPlace("-1", () -> x.bringBack(-1));
        Check.says(35, "`mark`: its number");
        for (int i = 0; i < 10; i++) {
            Check.due("bringBack", x.bringBack(i), 1);
            Check.due("what was then", x.value(x.version(), 1, A, A), i);
        }
        Check.due("the last one is there", x.bringBack(9), 0);
        Keyterrace y = new Keyterrace();
        y.pass(3);
        Check.due("the same version twice", y.mark(), 0);
        Check.due("the same version twice", y.mark(), 1);
        States.put(y, 1, A, A, 1);
        Check.due("of either", y.bringBack(1), 1);
        Check.due("of either", y.bringBack(0), 0);
    }

    private static void broughtBack() {
        Check.says(35, "Brings back what was in a version that was marked: by one commit, if something is to be changed, keys, "
            + "those of the layers too, are set or cleared, by their order.");
        Check.says(35, "Returns how many keys are changed.");
        Keyterrace x = new Keyterrace();
        x.mark();
        Check.due("nothing", x.bringBack(0), 0);
        Check.due("no commit", x.version(), 0);
        States.fill(x, 1, 1, 3);
        x.mark();
        States.put(x, 1, 1, A, 5);
        States.put(x, 1, 1, A, 1);
        Check.due("what became what it was", x.bringBack(1), 0);
        Check.due("no commit", x.version(), 3);
        States.put(x, 1, 1, A, 5);
        States.clearKey(x, 1, 2, A);
        States.put(x, 1, 4, A, 5);
        States.put(x, 1, 5, A, 5);
        States.clearKey(x, 1, 5, A);
        x.begin(0, false);
        x.get(0, 1, 3, A, true);
        x.change(0, SET, 2, A, A, 1);
        x.begin(1, false);
        x.get(1, 1, 4, A, true);
        x.change(1, SET, 2, A, A, 1);
        for (int b = 1; b <= 5; b++) {
            x.watch(1, b, A);
        }
        Check.due("one is set back, one set, one cleared", x.bringBack(1), 3);
        Check.due("by one commit", x.version(), 9);
        int[] values = {1, 1, 1, N, N};
        int[] fired = {9, 9, N, 9, N};
        for (int b = 1; b <= 5; b++) {
            Check.due("the value of " + b, x.value(9, 1, b, A), values[b - 1]);
            Check.due("the watch of " + b, x.fired(b - 1), fired[b - 1]);
        }
        Check.due("what is not changed does not conflict", x.commit(0), 10);
        Check.due("what is cleared does", x.commit(1), Keyterrace.CONFLICT);
        Check.due("to the version 0", x.bringBack(0), 4);
        Check.due("no keys", x.part(0, 1), 0);
        layers();
    }

    private static void layers() {
        Check.says(35, "keys, those of the layers too, are set or cleared, by their order.");
        Keyterrace x = new Keyterrace();
        x.mark();
        x.directory(0, 1);
        x.begin(0, false);
        x.save(0, 5, 5);
        x.offer(0, 7);
        x.commit(0);
        x.take(0);
        x.off(1);
        x.mark();
        Check.due("record, 0, 2, work, lease, and the state of 1", x.part(0, 1), 6);
        x.build(1, 1);
        x.finish(0);
        States.saved(x, 5, 6);
        Check.due("the record, two keys of each index, the state of 1, work, lease", x.bringBack(1), 10);
        Check.due("the record", x.value(x.version(), -1, 5, A), 5);
        Check.due("its index is OFF", x.value(x.version(), -6, 1, A), -1000);
        Check.due("without keys", x.rank(99), 0);
        Check.due("the lease", x.finish(0), 7);
        Check.due("to the version 0", x.bringBack(0), 4);
        Check.noState("the index is ON", () -> x.build(1, 1));
        Check.due("without records", x.rankAnew(99), 0);
        Check.due("directories stay", x.shortName(1), 1);
    }

    public static void main(String[] args) {
        atFirst();
        moreThanEight();
        servers();
        fewerThanFour();
        byAllCommits();
        tenMarks();
        broughtBack();
        Check.end();
    }
}
