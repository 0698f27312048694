/** The edges of directories: Terms, and the promises 16 to 20. */
public final class DirectoryEdgesTest {
    private static final int A = Keyterrace.ABSENT, N = Keyterrace.NONE;

    private static void atFirst() {
        Check.says(0, "The directory 0 is there;");
        Keyterrace x = new Keyterrace();
        Check.due("its short name", x.shortName(0), 0);
        for (int name = 0; name <= 9; name++) {
            Check.due("none below it", x.named(0, name), N);
        }
        Check.noPlace("no other one", () -> x.shortName(1));
        Check.noPlace("none below 0", () -> x.shortName(-1));
        Check.due("it can be a parent", x.directory(0, 0), 1);
    }

    private static void nineMore() {
        Check.says(0, "others, at most 9 more");
        Check.says(16, "Makes a directory.");
        Keyterrace x = new Keyterrace();
        for (int i = 1; i <= 9; i++) {
            Check.due("directory " + i, x.directory(i / 2, i), i);
        }
        Check.noState("the tenth", () -> x.directory(0, 0));
        Check.noState("below another one", () -> x.directory(9, 0));
        Check.noState("and if the name is taken", () -> x.directory(0, 1));
        Check.due("all 9 are there", x.named(4, 9), 9);
        x.remove(9);
        Check.due("one again", x.directory(0, 0), 10);
        Check.noState("not two", () -> x.directory(9 - 1, 1));
        Check.says(16, "Returns its number, from 1; numbers do not come again.");
        x.remove(10);
        Check.noPlace("10 is gone", () -> x.shortName(10));
        Check.due("the number behind it", x.directory(0, 0), 11);
        Keyterrace y = new Keyterrace();
        Check.due("from 1", y.directory(0, 5), 1);
        y.remove(1);
        Check.due("not 1 again", y.directory(0, 5), 2);
        Check.noPlace("1 is gone", () -> y.named(1, 0));
        Check.noState("a refused one", () -> y.directory(0, 5));
        Check.noArgument("another refused one", () -> y.directory(0, 10));
        Check.due("took no number", y.directory(0, 6), 3);
    }

    private static void names() {
        Check.says(0, "have a parent, a name, 0 to 9, which none of its others has");
        Check.says(16, "`parent`: its parent");
        Check.says(16, "`name`: 0 to 9");
        Keyterrace x = new Keyterrace();
        Check.noArgument("-1", () -> x.directory(0, -1));
        Check.noArgument("10", () -> x.directory(0, 10));
        Check.due("0", x.directory(0, 0), 1);
        Check.due("9", x.directory(0, 9), 2);
        Check.noState("0 again", () -> x.directory(0, 0));
        Check.noState("9 again", () -> x.directory(0, 9));
        Check.due("0 below another one", x.directory(1, 0), 3);
        Check.due("9 below that", x.directory(3, 9), 4);
        Check.says(20, "Returns the directory with a name.");
        Check.says(20, "`parent`: its parent");
        Check.says(20, "`name`: 0 to 9");
        Check.noArgument("-1", () -> x.named(0, -1));
        Check.due("0", x.named(0, 0), 1);
        Check.due("9", x.named(0, 9), 2);
        Check.noArgument("10", () -> x.named(0, 10));
        Check.due("of another parent", x.named(1, 0), 3);
        Check.due("of another parent", x.named(3, 9), 4);
        Check.says(20, "Returns its number, NONE without.");
        Check.due("a name between", x.named(0, 1), N);
        Check.due("not below another one", x.named(2, 0), N);
        Check.due("not of those below", x.named(1, 9), N);
        x.remove(2);
        Check.due("not of one removed", x.named(0, 9), N);
        Check.due("its name is free", x.directory(0, 9), 5);
        Check.due("the new one", x.named(0, 9), 5);
    }

    private static void shortNames() {
        Check.says(0, "a short name: the lowest number, from 1 on, that none has.");
        Check.says(19, "`directory`: its number");
        Check.says(19, "Returns the short name of a directory.");
        Check.says(19, "Returns the short name, 0 of the directory 0.");
        Keyterrace x = new Keyterrace();
        Check.due("of the directory 0", x.shortName(0), 0);
        for (int i = 1; i <= 9; i++) {
            x.directory(i > 5 ? 5 : 0, i);
            Check.due("in their order", x.shortName(i), i);
        }
        x.remove(4);
        x.remove(2);
        x.remove(9);
        Check.due("directory", x.directory(0, 2), 10);
        Check.due("the lowest", x.shortName(10), 2);
        Check.due("directory", x.directory(1, 2), 11);
        Check.due("the next one", x.shortName(11), 4);
        Check.due("directory", x.directory(11, 2), 12);
        Check.due("the highest", x.shortName(12), 9);
        x.move(12, 0, 9);
        Check.due("it stays when it is moved", x.shortName(12), 9);
        x.remove(5);
        for (int i = 5; i <= 8; i++) {
            Check.due("directory", x.directory(0, i), i + 8);
            Check.due("of those below, too", x.shortName(i + 8), i);
        }
    }

    private static void moves() {
        Check.says(0, "A directory can be moved to another parent and name, but not into itself, or those below it.");
        Check.says(17, "Moves a directory.");
        Check.says(17, "`directory`: its number");
        Check.says(17, "`parent`: its parent then");
        Check.says(17, "`name`: 0 to 9");
        Keyterrace x = new Keyterrace();
        x.directory(0, 1);
        x.directory(1, 1);
        x.directory(2, 1);
        x.directory(0, 4);
        Check.noState("into itself", () -> x.move(1, 1, 5));
        Check.noState("into one below", () -> x.move(1, 2, 5));
        Check.noState("into one below that", () -> x.move(1, 3, 5));
        Check.noState("the directory 0 into itself", () -> x.move(0, 0, 5));
        Check.noState("the directory 0 into another one", () -> x.move(0, 4, 5));
        Check.noArgument("the name -1", () -> x.move(4, 1, -1));
        Check.noArgument("the name 10", () -> x.move(4, 1, 10));
        Check.noState("to a name of another one", () -> x.move(4, 0, 1));
        Check.noState("to a name of another one there", () -> x.move(4, 2, 1));
        Check.due("nothing was moved", x.named(0, 4), 4);
        x.move(4, 0, 4);
        Check.due("to where it is, with its own name", x.named(0, 4), 4);
        x.move(4, 0, 0);
        Check.due("to the name 0", x.named(0, 0), 4);
        Check.due("not by the other", x.named(0, 4), N);
        x.move(4, 0, 9);
        Check.due("to the name 9", x.named(0, 9), 4);
        x.move(4, 3, 1);
        Check.due("to another parent", x.named(3, 1), 4);
        Check.due("not below the other", x.named(0, 9), N);
        Check.noState("it is below 1 now", () -> x.move(1, 4, 5));
        x.move(2, 0, 2);
        Check.due("what is below goes with it", x.named(3, 1), 4);
        Check.due("up", x.named(0, 2), 2);
        x.move(1, 4, 5);
        Check.due("into what is below it no more", x.named(4, 5), 1);
        Check.noState("and not back into it", () -> x.move(2, 1, 5));
        Check.due("no commit", x.version(), 0);
    }

    private static Keyterrace withKeys() {
        Keyterrace x = new Keyterrace();
        x.directory(0, 1);
        x.directory(1, 2);
        x.directory(2, 3);
        x.directory(0, 4);
        x.begin(3, false);
        for (int a = 0; a <= 5; a++) {
            x.change(3, Keyterrace.SET, a, A, A, 1);
            x.change(3, Keyterrace.SET, a, 9999, 9999, 1);
        }
        x.commit(3);
        return x;
    }

    private static void removals() {
        Check.says(0, "To remove one removes all below it, too, and clears the ranges of their short names, by one commit, if "
            + "some key there has a value.");
        Check.says(18, "Removes a directory.");
        Check.says(18, "`directory`: its number");
        Check.says(18, "Returns how many keys with a value are cleared by that.");
        Keyterrace x = withKeys();
        Check.noState("not the directory 0", () -> x.remove(0));
        Check.due("those of three", x.remove(1), 6);
        Check.due("by one commit", x.version(), 2);
        for (int a = 0; a <= 5; a++) {
            int due = a >= 1 && a <= 3 ? N : 1;
            Check.due("the key (" + a + ")", x.value(2, a, A, A), due);
            Check.due("the last one of its range", x.value(2, a, 9999, 9999), due);
            Check.due("in the version ahead", x.value(1, a, A, A), 1);
        }
        for (int i = 1; i <= 3; i++) {
            int gone = i;
            Check.noPlace("it is gone: " + i, () -> x.shortName(gone));
        }
        Check.due("another one stays", x.shortName(4), 4);
        Check.noPlace("not once more", () -> x.remove(1));
        Keyterrace y = withKeys();
        Check.due("only what is below", y.remove(3), 2);
        Check.due("its parent stays", y.shortName(2), 2);
        Check.due("its keys, too", y.value(2, 2, A, A), 1);
        Keyterrace z = withKeys();
        z.move(2, 4, 0);
        Check.due("what was moved away stays", z.remove(1), 2);
        Check.due("it is there", z.shortName(3), 3);
        Check.due("what was moved below goes", z.remove(4), 6);
        Check.noPlace("it is gone", () -> z.shortName(3));
        Check.due("two commits", z.version(), 3);
    }

    private static void removalsByCommits() {
        Check.says(0, "and clears the ranges of their short names, by one commit, if some key there has a value.");
        Keyterrace x = new Keyterrace();
        x.directory(0, 1);
        x.directory(1, 1);
        x.directory(0, 2);
        States.put(x, 4, A, A, 1);
        States.put(x, 2, 5, A, 0);
        x.watch(2, 5, A);
        x.watch(4, A, A);
        x.begin(0, false);
        x.get(0, 1, 7, A, true);
        x.change(0, Keyterrace.SET, 9, A, A, 1);
        x.begin(1, false);
        x.get(1, 3, 7, A, true);
        x.change(1, Keyterrace.SET, 9, A, A, 1);
        Check.due("a key of the value 0", x.remove(1), 1);
        Check.due("a commit", x.version(), 3);
        Check.due("a watch is fired", x.fired(0), 3);
        Check.due("another one is not", x.fired(1), N);
        Check.due("a range without keys is cleared, too", x.commit(0), Keyterrace.CONFLICT);
        Check.due("that of another one is not", x.commit(1), 4);
        x.begin(0, false);
        x.get(0, 3, 7, A, true);
        x.change(0, Keyterrace.SET, 9, A, A, 1);
        Check.due("no key has a value", x.remove(3), 0);
        Check.due("no commit", x.version(), 4);
        Check.due("nothing is cleared", x.commit(0), 5);
        Check.noPlace("but it is gone", () -> x.shortName(3));
    }

    public static void main(String[] args) {
        atFirst();
        nineMore();
        names();
        shortNames();
        moves();
        removals();
        removalsByCommits();
        Check.end();
    }
}
