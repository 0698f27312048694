/** The edges of records and their indexes: Terms, and the promises 21 to 26. */
public final class RecordEdgesTest {
    private static final int A = Keyterrace.ABSENT, N = Keyterrace.NONE;
    private static final int SET = Keyterrace.SET, CONFLICT = Keyterrace.CONFLICT;

    /** How many changes the transaction 0 keeps, told by one more, of a key beside. */
    private static int kept(Keyterrace x) {
        return x.change(0, SET, 900, A, A, 1) - 1;
    }

    private static int now(Keyterrace x, int a, int b, int c) {
        return x.value(x.version(), a, b, c);
    }

    /** Records with numbers and fields in turn, saved by commits of their own. */
    private static Keyterrace with(int... numbersAndFields) {
        Keyterrace x = new Keyterrace();
        for (int i = 0; i + 1 < numbersAndFields.length; i += 2) {
            States.saved(x, numbersAndFields[i], numbersAndFields[i + 1]);
        }
        return x;
    }

    private static void numbersAndFields() {
        Check.says(0, "A record has a number, 0 to 99, and a field, 0 to 99: the key (-1, number) has it as its value.");
        Check.says(21, "Saves a record, however many changes the transaction keeps by that.");
        Check.says(21, "`transaction`: 0 to 3");
        Check.says(21, "`number`: 0 to 99");
        Check.says(21, "`field`: 0 to 99");
        Check.says(22, "`transaction`: 0 to 3");
        Check.says(22, "`number`: 0 to 99");
        Keyterrace x = new Keyterrace();
        for (int t = 0; t <= 3; t++) {
            x.begin(t, false);
            Check.due("save", x.save(t, t, t), N);
            Check.due("erase", x.erase(t, t), t);
        }
        x.begin(0, false);
        Check.noArgument("the number -1", () -> x.save(0, -1, 1));
        Check.noArgument("the number 100", () -> x.save(0, 100, 1));
        Check.noArgument("the field -1", () -> x.save(0, 1, -1));
        Check.noArgument("the field 100", () -> x.save(0, 1, 100));
        Check.due("0 with 99", x.save(0, 0, 99), N);
        Check.due("99 with 0", x.save(0, 99, 0), N);
        Check.due("its own are seen", x.get(0, -1, 0, A, false), 99);
        Check.noArgument("the number -1", () -> x.erase(0, -1));
        Check.noArgument("the number 100", () -> x.erase(0, 100));
        Check.due("commit", x.commit(0), 1);
        Check.due("the record 0", x.value(1, -1, 0, A), 99);
        Check.due("the record 99", x.value(1, -1, 99, A), 0);
        x.begin(0, false);
        Check.due("two", x.range(0, -1, A, false), 2);
        Check.due("erase 0", x.erase(0, 0), 99);
        Check.due("erase 99", x.erase(0, 99), 0);
        Check.due("none", x.range(0, -1, A, false), 0);
        Check.due("commit", x.commit(0), 2);
        Check.due("the record 0", x.value(2, -1, 0, A), N);
    }

    private static void answers() {
        Check.says(21, "Returns the field before, NONE if there was no record.");
        Keyterrace x = with(5, 0);
        x.begin(0, false);
        Check.due("NONE", x.save(0, 6, 1), N);
        x.begin(0, false);
        Check.due("the field 0", x.save(0, 5, 99), 0);
        x.begin(0, false);
        Check.due("of the version at which it reads", x.save(0, 5, 0), 0);
        Check.due("the same field", kept(x), 7);
        x.begin(0, false);
        x.save(0, 7, 99);
        Check.due("its own", x.save(0, 7, 1), 99);
        Check.says(22, "Erases a record, however many changes the transaction keeps by that.");
        Check.says(22, "Returns the field before, NONE if there was no record; then nothing is changed.");
        x.begin(0, false);
        Check.due("none", x.erase(0, 6), N);
        Check.due("nothing is changed", kept(x), 0);
        Check.due("the field before", x.erase(0, 5), 0);
        Check.due("changed", kept(x), 1 + 4);
        Check.due("it is not there", x.erase(0, 5), N);
        Check.due("nothing more is changed", kept(x), 1 + 4 + 1);
        x.begin(0, false);
        x.erase(0, 6);
        Check.due("nothing is to be committed", x.commit(0), 1);
    }

    private static void howeverMany() {
        Check.says(21, "Saves a record, however many changes the transaction keeps by that.");
        Keyterrace x = with(1, 1, 2, 2);
        x.begin(0, false);
        for (int i = 1; i <= 11; i++) {
            x.change(0, SET, 1, i, A, 1);
        }
        Check.due("the 11th does not refuse it", x.save(0, 1, 2), 1);
        Check.noState("18 do", () -> x.save(0, 3, 3));
        Check.noState("an erase, too", () -> x.erase(0, 3));
        Check.noState("and changes", () -> x.change(0, SET, 1, 1, A, 1));
        Check.due("all are done", x.commit(0), 3);
        Check.due("the 11th", x.value(3, 1, 11, A), 1);
        Check.due("the record", x.value(3, -1, 1, A), 2);
        Check.due("its count", x.value(3, -3, 2, A), 2);
        Check.says(22, "Erases a record, however many changes the transaction keeps by that.");
        x.begin(0, false);
        for (int i = 1; i <= 11; i++) {
            x.change(0, SET, 1, i, A, 2);
        }
        Check.due("erase of what is not there", x.erase(0, 9), N);
        Check.due("the 11th does not refuse it", x.erase(0, 1), 2);
        Check.noState("15 do", () -> x.erase(0, 2));
        Check.due("all are done", x.commit(0), 4);
        Check.due("the record", x.value(4, -1, 1, A), N);
        x.begin(0, false);
        for (int i = 1; i <= 12; i++) {
            x.change(0, SET, 1, i, A, 3);
        }
        Check.noState("12 refuse a save", () -> x.save(0, 1, 1));
        Check.noState("12 refuse an erase", () -> x.erase(0, 2));
        Check.noState("even of what is not there", () -> x.erase(0, 9));
    }

    private static void threeIndexes() {
        Check.says(0, "There are three indexes: 0 by field: the key (-2, field, number) has the value 0 for each;");
        Keyterrace x = with(0, 99, 99, 0, 50, 0);
        Check.due("(-2, 99, 0)", x.value(3, -2, 99, 0), 0);
        Check.due("(-2, 0, 99)", x.value(3, -2, 0, 99), 0);
        Check.due("(-2, 0, 50)", x.value(3, -2, 0, 50), 0);
        x.begin(0, false);
        Check.due("no others", x.range(0, -2, A, false), 3);
        Check.says(0, "1 by count: the key (-3, field) has how many have this field, by ADDED 1 and -1, and may come to be 0;");
        Check.due("(-3, 0)", x.value(3, -3, 0, A), 2);
        Check.due("(-3, 99)", x.value(3, -3, 99, A), 1);
        Check.due("(-3, 1)", x.value(3, -3, 1, A), N);
        Check.due("no others", x.range(0, -3, A, false), 2);
        x.erase(0, 0);
        Check.due("it comes to be 0", x.get(0, -3, 99, A, false), 0);
        x.commit(0);
        Check.due("done", x.value(4, -3, 99, A), 0);
        x.begin(0, false);
        Check.due("0 is a value", x.range(0, -3, A, false), 2);
        Check.says(0, "2 by version: the key (-4, version of the commit, number) has the field of each, being STAMPED in its "
            + "midst.");
        Check.due("(-4, 1, 0) then", x.value(3, -4, 1, 0), 99);
        Check.due("it was erased", x.value(4, -4, 1, 0), N);
        Check.due("(-4, 2, 99)", x.value(4, -4, 2, 99), 0);
        Check.due("(-4, 3, 50)", x.value(4, -4, 3, 50), 0);
        x.save(0, 7, 7);
        Check.due("STAMPED keys are not seen", x.range(0, -4, A, false), 2);
        x.save(0, 8, 7);
        x.commit(0);
        Check.due("two of a commit", x.value(5, -4, 5, 7), 7);
        Check.due("two of a commit", x.value(5, -4, 5, 8), 7);
    }

    private static void states() {
        Check.says(0, "The key (-6, index) has 1000, or no value, if it is ON, as at first, -1000, if it is OFF, otherwise the "
            + "number up to which it goes, included.");
        for (int i = 0; i <= 2; i++) {
            int index = i;
            Keyterrace x = with(0, 1, 1, 1, 2, 1, 99, 1);
            Check.due("no value at first", now(x, -6, index, A), N);
            Check.noState("that is ON", () -> x.build(index, 1));
            x.off(index);
            Check.due("OFF", now(x, -6, index, A), -1000);
            States.saved(x, 0, 2);
            Check.due("nothing is for the record 0", keysOf(x, index), 0);
            Check.due("build", x.build(index, 1), 1);
            Check.due("up to 0", now(x, -6, index, A), 0);
            Check.due("one key", keysOf(x, index), 1);
            States.saved(x, 0, 3);
            Check.due("0 is included", index == 1 ? now(x, -3, 3, A) : keysOf(x, index), 1);
            States.saved(x, 1, 3);
            Check.due("1 is not", index == 1 ? now(x, -3, 3, A) : keysOf(x, index), 1);
            Check.due("build", x.build(index, 2), 2);
            Check.due("up to 2", now(x, -6, index, A), 2);
            States.saved(x, 2, 4);
            Check.due("2 is included", index == 1 ? now(x, -3, 4, A) : keysOf(x, index), index == 1 ? 1 : 3);
            States.saved(x, 3, 4);
            Check.due("3 is not", index == 1 ? now(x, -3, 4, A) : keysOf(x, index), index == 1 ? 1 : 3);
            Check.due("build", x.build(index, 20), 2);
            Check.due("1000", now(x, -6, index, A), 1000);
            Check.noState("that is ON, too", () -> x.build(index, 1));
            States.saved(x, 98, 4);
            Check.due("and has all", index == 1 ? now(x, -3, 4, A) : keysOf(x, index), index == 1 ? 3 : 6);
        }
    }

    /** How many keys an index has. */
    private static int keysOf(Keyterrace x, int index) {
        x.begin(2, false);
        return x.range(2, -2 - index, A, false);
    }

    /** Which reading of a transaction that saves, or erases, the record 5 is met by a commit. */
    private static int met(boolean saves, Twins.Calls other) {
        Keyterrace x = with(5, 5);
        x.begin(0, false);
        if (saves) {
            x.save(0, 5, 6);
        } else {
            x.erase(0, 5);
        }
        other.on(x);
        return x.commit(0) == CONFLICT ? x.why() : N;
    }

    private static void readings() {
        Check.says(0, "In a transaction a record is saved, or erased: the three keys of the indexes, and then the record that "
            + "is there, are read;");
        for (boolean saves : new boolean[] {true, false}) {
            for (int i = 0; i <= 2; i++) {
                int index = i;
                Check.due("the index " + i, met(saves, x -> x.off(index)), index);
            }
            Check.due("the record", met(saves, x -> States.saved(x, 5, 5)), 3);
            Check.due("the record erased", met(saves, x -> {
                x.begin(3, false);
                x.erase(3, 5);
                x.commit(3);
            }), 3);
            Check.due("no other record", met(saves, x -> States.saved(x, 4, 5)), N);
            Check.due("nor one of the new field", met(saves, x -> States.saved(x, 6, 6)), N);
        }
        Keyterrace x = new Keyterrace();
        x.begin(0, false);
        x.erase(0, 5);
        x.change(0, SET, 1, A, A, 1);
        States.saved(x, 5, 5);
        Check.due("one that is not there", x.commit(0), CONFLICT);
        Check.due("is read", x.why(), 3);
        x.begin(0, false);
        x.save(0, 7, 7);
        x.save(0, 8, 8);
        States.saved(x, 8, 9);
        Check.due("each reads four", x.commit(0), CONFLICT);
        Check.due("the last of them", x.why(), 7);
        x.begin(0, false);
        x.save(0, 9, 7);
        x.off(0);
        x.begin(0, false);
        x.save(0, 9, 7);
        x.build(0, 20);
        Check.due("an index that was built", x.commit(0), CONFLICT);
        Check.due("its key", x.why(), 0);
    }

    private static void takenAway() {
        Check.says(0, "then, index by index, for those that are ON, or go for its number, what was for it is taken away, if there "
            + "was a record, and then what is for it now put there, if it is saved;");
        Keyterrace x = with(5, 5);
        x.begin(0, false);
        Check.due("no record", x.save(0, 6, 5), N);
        Check.due("three are put there, and the record", kept(x), 4);
        x.begin(0, false);
        x.save(0, 5, 6);
        Check.due("three are taken away, too", kept(x), 7);
        x.commit(0);
        Check.due("by field", now(x, -2, 5, 5), N);
        Check.due("by field now", now(x, -2, 6, 5), 0);
        Check.due("by count", now(x, -3, 5, A), 0);
        Check.due("by count now", now(x, -3, 6, A), 1);
        Check.due("by version", now(x, -4, 1, 5), N);
        Check.due("by version now", now(x, -4, 2, 5), 6);
        x.begin(0, false);
        x.erase(0, 5);
        Check.due("three are taken away, and the record", kept(x), 4);
        x.commit(0);
        Check.due("by field", now(x, -2, 6, 5), N);
        Check.due("by count", now(x, -3, 6, A), 0);
        Check.due("by version", now(x, -4, 2, 5), N);
        x = with(5, 5);
        for (int index = 0; index <= 2; index++) {
            x.off(index);
            x.begin(0, false);
            x.save(0, 5, 6);
            Check.due("only what is ON: " + index, kept(x), 5 - 2 * index);
            x.begin(0, false);
            x.erase(0, 5);
            Check.due("for an erase, too: " + index, kept(x), 3 - index);
        }
        Check.says(0, "then the record is set, or cleared.");
        x.begin(0, false);
        x.save(0, 5, 8);
        Check.due("set", x.get(0, -1, 5, A, false), 8);
        x.erase(0, 5);
        Check.due("cleared", x.get(0, -1, 5, A, false), N);
        x.commit(0);
        Check.due("it alone", now(x, -1, 5, A), N);
    }

    private static void countsAreAdded() {
        Check.says(0, "In the index 1 both are ADDED;");
        Keyterrace x = with(5, 5);
        x.begin(0, false);
        x.save(0, 6, 5);
        x.begin(1, false);
        x.save(1, 7, 5);
        x.begin(2, false);
        x.erase(2, 5);
        Check.due("one", x.commit(0), 2);
        Check.due("another one does not conflict", x.commit(1), 3);
        Check.due("nor does one that is erased", x.commit(2), 4);
        Check.due("all are counted", now(x, -3, 5, A), 2);
        x.begin(0, false);
        x.save(0, 6, 5);
        Check.due("-1 and 1", x.get(0, -3, 5, A, false), 2);
    }

    private static void byVersion() {
        Check.says(0, "in the index 2, all keys of this number that are seen in the range of -4 (which does not count) are "
            + "cleared, by their order, and what the transaction itself put there for it, STAMPED, is gone.");
        Keyterrace x = with(5, 5, 6, 5);
        x.begin(0, false);
        x.save(0, 5, 7);
        States.saved(x, 6, 8);
        Check.due("the range does not count", x.commit(0), 4);
        Check.due("the key of this number is cleared", now(x, -4, 1, 5), N);
        Check.due("it is put there anew", now(x, -4, 4, 5), 7);
        Check.due("that of another one stays", now(x, -4, 3, 6), 8);
        x.begin(0, false);
        x.save(0, 9, 1);
        Check.due("put there, STAMPED", kept(x), 4);
        x.save(0, 9, 2);
        Check.due("gone, and put there anew", kept(x), 5 + 5);
        x.commit(0);
        Check.due("the last one", now(x, -4, 5, 9), 2);
        x.begin(0, false);
        x.save(0, 10, 1);
        x.erase(0, 10);
        Check.due("gone", kept(x), 4 - 1 + 3);
        x.commit(0);
        Check.due("nothing is there", now(x, -4, 6, 10), N);
        x.begin(0, false);
        x.save(0, 9, 3);
        Check.due("seven", kept(x), 7);
        x.erase(0, 9);
        Check.due("what is cleared is not seen again", kept(x), 8 - 1 + 3);
        x.begin(0, false);
        x.save(0, 11, 1);
        x.offer(0, 4);
        x.save(0, 12, 1);
        x.erase(0, 12);
        x.commit(0);
        Check.due("what is for another one stays", now(x, -4, 7, 11), 1);
        Check.due("so does work", now(x, -5, 7, A), 4);
        Check.due("it is gone", now(x, -4, 7, 12), N);
        x.off(0);
        x.off(1);
        x.begin(0, false);
        x.save(0, 13, 1);
        x.save(0, 13, 2);
        Check.due("gone as the first change, too", kept(x), 3);
        x.commit(0);
        Check.due("the last one", now(x, -4, 10, 13), 2);
    }

    private static void building() {
        Check.says(0, "To build an index that is OFF, or not for all, goes on, by one commit, with records behind those for which "
            + "it goes, by rising numbers, some at most: puts there what is for them, and then sets its key to the last one's "
            + "number, or, if there are none behind it, to 1000.");
        Check.says(23, "Goes on with building an index.");
        Check.says(23, "`index`: 0 to 2");
        Check.says(23, "`most`: 1 to 20");
        Check.says(23, "Returns with how many records it went on.");
        Keyterrace x = with(0, 1, 50, 1, 99, 2);
        Check.noPlace("the index -1", () -> x.build(-1, 1));
        Check.noPlace("the index 3", () -> x.build(3, 1));
        x.off(0);
        Check.noArgument("0 at most", () -> x.build(0, 0));
        Check.noArgument("21 at most", () -> x.build(0, 21));
        Check.due("1 at most", x.build(0, 1), 1);
        Check.due("by one commit", x.version(), 5);
        Check.due("the lowest one", x.value(5, -2, 1, 0), 0);
        Check.due("not the next", x.value(5, -2, 1, 50), N);
        Check.due("to the last one's number", x.value(5, -6, 0, A), 0);
        Check.due("goes on", x.build(0, 1), 1);
        Check.due("behind those", x.value(6, -2, 1, 50), 0);
        Check.due("to the last one's number", x.value(6, -6, 0, A), 50);
        Check.due("just as many as are left", x.build(0, 1), 1);
        Check.due("the highest one", x.value(7, -2, 2, 99), 0);
        Check.due("there are none behind it", x.value(7, -6, 0, A), 1000);
        x.off(2);
        Check.due("of the index 2", x.build(2, 20), 3);
        Check.due("with the version of the commit", x.value(9, -4, 9, 99), 2);
        Check.due("not with that of the record", x.value(9, -4, 3, 99), N);
        x.off(1);
        Check.due("of the index 1", x.build(1, 3), 3);
        Check.due("two of a field", x.value(11, -3, 1, A), 2);
        Check.due("one of a field", x.value(11, -3, 2, A), 1);
        Keyterrace y = new Keyterrace();
        y.off(1);
        Check.due("without records", y.build(1, 20), 0);
        Check.due("by one commit, too", y.version(), 2);
        Check.due("there are none behind", y.value(2, -6, 1, A), 1000);
        twentyAtMost();
        noneBehind();
    }

    private static void twentyAtMost() {
        Keyterrace x = new Keyterrace();
        for (int number = 79; number <= 99; number++) {
            States.saved(x, number, 5);
        }
        x.off(1);
        Check.due("20 at most", x.build(1, 20), 20);
        Check.due("the last one's number", now(x, -6, 1, A), 98);
        Check.due("all of these", x.rank(99), 20);
        Check.due("the 21st", x.build(1, 20), 1);
        Check.due("none behind it", now(x, -6, 1, A), 1000);
        Check.due("all", x.rank(99), 21);
        x.off(1);
        Check.due("19 at most", x.build(1, 19), 19);
        Check.due("the last one's number", now(x, -6, 1, A), 97);
    }

    private static void noneBehind() {
        Keyterrace x = with(3, 1, 4, 1);
        x.off(0);
        Check.due("the first", x.build(0, 1), 1);
        x.begin(0, false);
        x.erase(0, 4);
        x.commit(0);
        x.watch(-6, 0, A);
        Check.due("the second was erased", x.build(0, 1), 0);
        Check.due("ON", now(x, -6, 0, A), 1000);
        Check.due("by a commit", x.fired(0), x.version());
        x = with(3, 1, 4, 1, 5, 1);
        x.off(0);
        x.build(0, 1);
        States.saved(x, 1, 9);
        Check.due("one ahead goes there when it is saved", now(x, -2, 9, 1), 0);
        Check.due("and is not built again", x.build(0, 1), 1);
        Check.due("up to 4", now(x, -6, 0, A), 4);
    }

    private static void turnedOff() {
        Check.says(0, "One that is turned OFF has its keys cleared, as a range, and then its key set, by one commit.");
        Check.says(24, "Turns an index OFF.");
        Check.says(24, "`index`: 0 to 2");
        Check.says(24, "Returns how many keys with a value it had.");
        Keyterrace x = new Keyterrace();
        Check.noPlace("-1", () -> x.off(-1));
        Check.noPlace("3", () -> x.off(3));
        for (int i = 0; i <= 2; i++) {
            x.begin(0, false);
            x.get(0, -2 - i, 5, 5, true);
            x.change(0, SET, 1, A, A, 1);
            x.begin(1, false);
            x.get(1, -6, i, A, true);
            x.change(1, SET, 1, A, A, 1);
            Check.due("without keys", x.off(i), 0);
            Check.due("by one commit", x.version(), i + 1);
            Check.due("its key", x.value(i + 1, -6, i, A), -1000);
            Check.due("its range is cleared", x.commit(0), CONFLICT);
            Check.due("its key is set", x.commit(1), CONFLICT);
        }
        Keyterrace y = with(0, 0, 99, 99, 50, 0);
        y.begin(0, false);
        y.erase(0, 99);
        y.commit(0);
        y.watch(-2, 0, 0);
        y.watch(-6, 0, A);
        Check.due("two records by field", y.off(0), 2);
        Check.due("two counts, one of them 0", y.off(1), 2);
        Check.due("two records by version", y.off(2), 2);
        Check.due("cleared", y.value(7, -2, 0, 0), N);
        Check.due("by one commit", y.fired(0), 5);
        Check.due("and set by the same one", y.fired(1), 5);
        Check.due("the records stay", y.value(7, -1, 0, A), 0);
        y.build(1, 1);
        Check.due("one that is not for all", y.off(1), 1);
        Check.due("OFF", y.value(9, -6, 1, A), -1000);
        Check.due("one that is OFF", y.off(1), 0);
        Check.due("by one commit", y.version(), 10);
    }

    private static void ranks() {
        Check.says(25, "Returns how many records have a field below one, by the values of the index 1 now.");
        Check.says(25, "`field`: 0 to 99");
        Check.says(25, "Returns the sum of these values.");
        Check.says(26, "Returns the same, by the records now.");
        Check.says(26, "`field`: 0 to 99");
        Check.says(26, "Returns how many.");
        Keyterrace x = with(0, 0, 99, 0, 1, 98, 2, 99, 3, 50);
        int[] fields = {0, 1, 50, 51, 98, 99};
        int[] due = {0, 2, 2, 3, 3, 4};
        for (int i = 0; i < fields.length; i++) {
            Check.due("rank of " + fields[i], x.rank(fields[i]), due[i]);
            Check.due("anew", x.rankAnew(fields[i]), due[i]);
        }
        Check.noArgument("rank(-1)", () -> x.rank(-1));
        Check.noArgument("rank(100)", () -> x.rank(100));
        Check.noArgument("rankAnew(-1)", () -> x.rankAnew(-1));
        Check.noArgument("rankAnew(100)", () -> x.rankAnew(100));
        x.off(1);
        Check.due("by no values", x.rank(99), 0);
        Check.due("by the records", x.rankAnew(99), 4);
        x.build(1, 2);
        Check.due("by those that there are", x.rank(99), 2);
        x.begin(0, false);
        x.save(0, 0, 99);
        Check.due("not by what is not committed", x.rank(99), 2);
        Check.due("nor anew", x.rankAnew(99), 4);
        x.commit(0);
        Check.due("now", x.rank(99), 1);
        Check.due("anew", x.rankAnew(99), 3);
        Keyterrace y = new Keyterrace();
        Check.due("without records", y.rank(99), 0);
        Check.due("anew", y.rankAnew(99), 0);
    }

    public static void main(String[] args) {
        numbersAndFields();
        answers();
        howeverMany();
        threeIndexes();
        states();
        readings();
        takenAway();
        countsAreAdded();
        byVersion();
        building();
        turnedOff();
        ranks();
        Check.end();
    }
}
