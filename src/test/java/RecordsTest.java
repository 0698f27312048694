/** Promises 21 to 26: records and their indexes. */
public final class RecordsTest {
    private static final int A = Keyterrace.ABSENT, N = Keyterrace.NONE;

    /** Saves records with a field by one commit. */
    private static int saved(Keyterrace x, int field, int... numbers) {
        x.begin(3, false);
        for (int number : numbers) {
            x.save(3, number, field);
        }
        return x.commit(3);
    }

    /** How many changes a transaction keeps, told by one more, of a key beside. */
    private static int kept(Keyterrace x, int transaction) {
        return x.change(transaction, Keyterrace.SET, 900, A, A, 1) - 1;
    }

    private static void save() {
        Keyterrace x = new Keyterrace();
        Check.noPlace("no transaction", () -> x.save(4, 100, 100));
        Check.noArgument("number 100, ahead of not begun", () -> x.save(0, 100, 0));
        Check.noArgument("number -1", () -> x.save(0, -1, 0));
        Check.noArgument("field 100", () -> x.save(0, 0, 100));
        Check.noArgument("field -1", () -> x.save(0, 0, -1));
        Check.noState("not begun", () -> x.save(0, 0, 0));
        x.begin(0, false);
        Check.due("a new one", x.save(0, 99, 0), N);
        Check.due("four changes", kept(x, 0), 4);
        Check.due("again", x.save(0, 99, 99), 0);
        Check.due("its stamped key is put anew", kept(x, 0), 5 + 4 + 1 - 1 + 1);
        Check.due("a third, at 11", x.save(0, 0, 5), N);
        Check.noState("a fourth", () -> x.save(0, 1, 5));
        Check.due("commit", x.commit(0), 1);
        Check.due("the record", x.value(1, -1, 99, A), 99);
        Check.due("by field", x.value(1, -2, 99, 99), 0);
        Check.due("not by the one before", x.value(1, -2, 0, 99), N);
        Check.due("by count", x.value(1, -3, 99, A), 1);
        Check.due("none left", x.value(1, -3, 0, A), 0);
        Check.due("by version", x.value(1, -4, 1, 99), 99);
        Check.due("the other one", x.value(1, -4, 1, 0), 5);
        x.begin(0, false);
        Check.due("the same field", x.save(0, 99, 99), 99);
        Check.due("seven changes", kept(x, 0), 7);
        x.commit(0);
        Check.due("the version before", x.value(2, -4, 1, 99), N);
        Check.due("the version now", x.value(2, -4, 2, 99), 99);
        Check.due("the count", x.value(2, -3, 99, A), 1);
        x.begin(0, false);
        Check.due("in the index 2", x.range(0, -4, A, false), 2);
    }

    private static void readings() {
        Keyterrace x = new Keyterrace();
        x.begin(0, false);
        x.save(0, 1, 1);
        x.save(0, 1, 2);
        x.save(0, 2, 2);
        saved(x, 3, 2);
        Check.due("the record was saved by another", x.commit(0), Keyterrace.CONFLICT);
        Check.due("4 readings, 3 without the own record, and the 4th", x.why(), 10);
        x.begin(0, false);
        x.save(0, 7, 1);
        saved(x, 1, 8);
        Check.due("records beside each other", x.commit(0), x.version());
        x.begin(0, false);
        x.save(0, 9, 1);
        x.off(2);
        Check.due("an index turned OFF", x.commit(0), Keyterrace.CONFLICT);
        Check.due("the third reading", x.why(), 2);
        x.begin(0, false);
        x.erase(0, 50);
        x.change(0, Keyterrace.SET, 1, A, A, 1);
        saved(x, 1, 50);
        Check.due("what was not there was read", x.commit(0), Keyterrace.CONFLICT);
        Check.due("behind the indexes", x.why(), 3);
    }

    private static void erase() {
        Keyterrace x = new Keyterrace();
        Check.noPlace("no transaction", () -> x.erase(-1, 100));
        Check.noArgument("number 100", () -> x.erase(0, 100));
        Check.noArgument("number -1", () -> x.erase(0, -1));
        Check.noState("not begun", () -> x.erase(0, 0));
        saved(x, 30, 5, 6);
        x.begin(0, false);
        Check.due("none", x.erase(0, 7), N);
        Check.due("nothing is changed", kept(x, 0), 0);
        Check.due("erase", x.erase(0, 5), 30);
        Check.due("four changes", kept(x, 0), 1 + 4);
        Check.due("again", x.erase(0, 5), N);
        x.save(0, 8, 1);
        Check.due("kept", kept(x, 0), 10);
        Check.due("what it saved itself, at 11", x.erase(0, 8), 1);
        Check.noState("full, the STAMPED one is gone", () -> x.erase(0, 6));
        Check.due("commit", x.commit(0), 2);
        for (int number = 5; number <= 8; number++) {
            Check.due("by field " + number, x.value(2, -2, 30, number), number == 6 ? 0 : N);
            Check.due("by version " + number, x.value(2, -4, 1, number), number == 6 ? 30 : N);
            Check.due("record " + number, x.value(2, -1, number, A), number == 6 ? 30 : N);
        }
        Check.due("of the one saved and erased", x.value(2, -4, 2, 8), N);
        Check.due("the count may be 0", x.value(2, -3, 1, A), 0);
        Check.due("the other count", x.value(2, -3, 30, A), 1);
    }

    private static void build() {
        Keyterrace x = new Keyterrace();
        Check.noPlace("index 3, ahead of most", () -> x.build(3, 0));
        Check.noPlace("index -1", () -> x.build(-1, 1));
        Check.noArgument("most 0, ahead of ON", () -> x.build(0, 0));
        Check.noArgument("most 21", () -> x.build(0, 21));
        Check.noState("ON at first", () -> x.build(0, 20));
        saved(x, 7, 10, 20);
        saved(x, 8, 30, 99);
        x.off(1);
        int at = x.version();
        Check.due("OFF", x.value(at, -6, 1, A), -1000);
        Check.due("build", x.build(1, 2), 2);
        Check.due("by one commit", x.version(), at + 1);
        Check.due("it goes up to", x.value(at + 1, -6, 1, A), 20);
        Check.due("so far", x.rank(99), 2);
        x.begin(0, false);
        x.save(0, 20, 9);
        x.save(0, 21, 9);
        x.commit(0);
        Check.due("20 is included", x.value(x.version(), -3, 9, A), 1);
        Check.due("20 was taken away", x.value(x.version(), -3, 7, A), 1);
        Check.due("the rest", x.build(1, 3), 3);
        Check.due("ON as there are none behind it", x.value(x.version(), -6, 1, A), 1000);
        Check.due("all", x.rank(99), 5);
        Check.noState("ON", () -> x.build(1, 1));
        x.off(0);
        Check.due("index 0", x.build(0, 20), 5);
        Check.due("by field", x.value(x.version(), -2, 9, 21), 0);
        x.off(2);
        x.build(2, 4);
        Check.due("up to 30", x.value(x.version(), -6, 2, A), 30);
        Check.due("index 2 has the version", x.value(x.version(), -4, x.version(), 20), 9);
        Keyterrace y = new Keyterrace();
        y.off(2);
        Check.due("without records", y.build(2, 1), 0);
        Check.due("by one commit", y.version(), 2);
        Check.due("ON", y.value(2, -6, 2, A), 1000);
    }

    private static void buildToTheLast() {
        Keyterrace x = new Keyterrace();
        saved(x, 1, 1, 2, 3);
        x.off(0);
        Check.due("the first", x.build(0, 1), 1);
        Check.due("records without gap", x.value(x.version(), -6, 0, A), 1);
        Check.due("just the rest", x.build(0, 2), 2);
        Check.due("ON, as there are none behind it", x.value(x.version(), -6, 0, A), 1000);
    }

    private static void oneIndexOnly() {
        Keyterrace x = new Keyterrace();
        saved(x, 1, 1);
        x.off(0);
        x.off(1);
        x.begin(0, false);
        x.save(0, 2, 1);
        x.offer(0, 1);
        x.save(0, 2, 5);
        Check.due("its stamped key first, and another one", kept(x, 0), 4);
        x.save(0, 1, 5);
        int version = x.commit(0);
        Check.due("the one put anew", x.value(version, -4, version, 2), 5);
        Check.due("the work", x.value(version, -5, version, A), 1);
        Check.due("the one before", x.value(version, -4, 1, 1), N);
        x.build(1, 20);
        x.off(2);
        saved(x, 6, 1);
        Check.due("by count alone", x.value(x.version(), -3, 5, A), 1);
        Check.due("not by version", x.value(x.version(), -4, x.version(), 1), N);
    }

    private static void buildWhileWriting() {
        Keyterrace x = new Keyterrace();
        saved(x, 1, 1, 5);
        x.off(0);
        x.begin(0, false);
        x.save(0, 3, 2);
        Check.due("build", x.build(0, 1), 1);
        Check.due("the index went on", x.commit(0), Keyterrace.CONFLICT);
        x.begin(0, false);
        x.save(0, 3, 2);
        x.save(0, 1, 2);
        x.commit(0);
        Check.due("3 is not gone for", x.value(x.version(), -2, 2, 3), N);
        Check.due("1 is", x.value(x.version(), -2, 2, 1), 0);
        Check.due("build", x.build(0, 20), 2);
        Check.due("now it is", x.value(x.version(), -2, 2, 3), 0);
    }

    private static void off() {
        Keyterrace x = new Keyterrace();
        Check.noPlace("off(3)", () -> x.off(3));
        Check.noPlace("off(-1)", () -> x.off(-1));
        saved(x, 1, 1, 2);
        x.begin(0, false);
        x.save(0, 1, 2);
        x.commit(0);
        Check.due("off(0)", x.off(0), 2);
        Check.due("off(1)", x.off(1), 2);
        Check.due("off(2)", x.off(2), 2);
        Check.due("each by one commit", x.version(), 5);
        Check.due("again", x.off(2), 0);
        Check.due("by one commit", x.version(), 6);
        x.begin(0, false);
        Check.due("only records and states", x.range(0, A, A, false), 5);
        x.save(0, 3, 3);
        Check.due("one change", kept(x, 0), 1);
    }

    private static void rank() {
        Keyterrace x = new Keyterrace();
        Check.noArgument("rank(100)", () -> x.rank(100));
        Check.noArgument("rank(-1)", () -> x.rank(-1));
        Check.noArgument("rankAnew(100)", () -> x.rankAnew(100));
        Check.noArgument("rankAnew(-1)", () -> x.rankAnew(-1));
        saved(x, 0, 0, 2);
        saved(x, 50, 99);
        saved(x, 99, 4);
        int[] fields = {0, 1, 50, 51, 99};
        int[] due = {0, 2, 2, 3, 3};
        for (int i = 0; i < fields.length; i++) {
            Check.due("rank " + fields[i], x.rank(fields[i]), due[i]);
            Check.due("rankAnew " + fields[i], x.rankAnew(fields[i]), due[i]);
        }
        x.off(1);
        Check.due("rank without index", x.rank(99), 0);
        Check.due("rankAnew without index", x.rankAnew(99), 3);
        Check.due("no commits", x.version(), 4);
    }

    public static void main(String[] args) {
        save();
        readings();
        erase();
        build();
        buildToTheLast();
        oneIndexOnly();
        buildWhileWriting();
        off();
        rank();
        Check.end();
    }
}
