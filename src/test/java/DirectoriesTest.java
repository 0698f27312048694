/** Promises 16 to 20: directories. */
public final class DirectoriesTest {
    private static final int A = Keyterrace.ABSENT, N = Keyterrace.NONE;

    private static void put(Keyterrace x, int a, int b) {
        x.begin(3, false);
        x.change(3, Keyterrace.SET, a, b, A, 1);
        x.commit(3);
    }

    private static void directory() {
        Keyterrace x = new Keyterrace();
        Check.noPlace("no parent, ahead of the name", () -> x.directory(1, 10));
        Check.noPlace("parent -1", () -> x.directory(-1, 0));
        Check.noArgument("name 10", () -> x.directory(0, 10));
        Check.noArgument("name -1", () -> x.directory(0, -1));
        Check.due("the first", x.directory(0, 0), 1);
        Check.noState("the name is taken", () -> x.directory(0, 0));
        Check.due("the same name below another", x.directory(1, 0), 2);
        for (int i = 3; i <= 9; i++) {
            Check.due("directory " + i, x.directory(2, i), i);
            Check.due("its short name", x.shortName(i), i);
        }
        Check.noState("a tenth", () -> x.directory(0, 9));
        Check.noArgument("an argument ahead of that", () -> x.directory(0, 10));
        Check.due("no commit", x.version(), 0);
        x.remove(5);
        Check.due("numbers do not come again", x.directory(2, 5), 10);
        Check.due("short names do", x.shortName(10), 5);
    }

    private static void move() {
        Keyterrace x = new Keyterrace();
        int one = x.directory(0, 1), two = x.directory(one, 2), three = x.directory(two, 3), four = x.directory(0, 4);
        Check.noPlace("no directory", () -> x.move(9, 0, 10));
        Check.noPlace("no parent", () -> x.move(one, 9, 10));
        Check.noArgument("name 10, ahead of the directory 0", () -> x.move(0, one, 10));
        Check.noState("the directory 0", () -> x.move(0, one, 5));
        Check.noState("into itself", () -> x.move(one, one, 5));
        Check.noState("into one below", () -> x.move(one, three, 5));
        Check.noState("a name of another one", () -> x.move(four, 0, 1));
        x.move(one, 0, 1);
        Check.due("to where it is", x.named(0, 1), one);
        x.move(one, 0, 7);
        Check.due("another name", x.named(0, 7), one);
        Check.due("not the one before", x.named(0, 1), N);
        x.move(two, four, 2);
        Check.due("another parent", x.named(four, 2), two);
        Check.due("not the one before", x.named(one, 2), N);
        Check.due("what is below goes with it", x.named(two, 3), three);
        x.move(one, three, 0);
        Check.due("no more below", x.named(three, 0), one);
        Check.noState("below now", () -> x.move(four, one, 9));
        Check.due("the short name stays", x.shortName(one), 1);
        Check.due("no commit", x.version(), 0);
    }

    private static void remove() {
        Keyterrace x = new Keyterrace();
        int one = x.directory(0, 1), two = x.directory(0, 2), three = x.directory(one, 3), four = x.directory(three, 3);
        Check.noPlace("no directory", () -> x.remove(5));
        Check.noState("the directory 0", () -> x.remove(0));
        put(x, 2, A);
        put(x, 2, 5);
        put(x, 4, 6);
        put(x, 4, 7);
        put(x, 1, 1);
        put(x, 0, 1);
        x.watch(4, 7, A);
        x.begin(0, false);
        x.get(0, 3, 3, A, true);
        x.change(0, Keyterrace.SET, 8, A, A, 1);
        Check.due("all that are below", x.remove(one), 3);
        Check.due("one commit", x.version(), 7);
        Check.due("a watch is fired by it", x.fired(0), 7);
        Check.due("the part has fewer keys", x.part(0, 1), 3);
        Check.due("cleared", x.value(7, 4, 6, A), N);
        Check.due("not the others", x.value(7, 2, 5, A) + x.value(7, 0, 1, A), 2);
        Check.due("ranges without keys are cleared, too", x.commit(0), Keyterrace.CONFLICT);
        Check.noPlace("one", () -> x.shortName(one));
        Check.noPlace("three", () -> x.named(three, 1));
        Check.noPlace("four", () -> x.move(four, 0, 1));
        Check.due("two stays", x.named(0, 2), two);
        Check.due("its name is free", x.named(0, 1), N);
        int five = x.directory(two, 1);
        Check.due("without keys", x.remove(five), 0);
        Check.due("no commit", x.version(), 7);
        Check.due("the next number", x.directory(two, 1), 6);
        Check.due("the lowest short name", x.shortName(6), 1);
    }

    private static void names() {
        Keyterrace x = new Keyterrace();
        int one = x.directory(0, 9);
        Check.due("of the directory 0", x.shortName(0), 0);
        Check.due("of the first", x.shortName(one), 1);
        Check.noPlace("shortName(2)", () -> x.shortName(2));
        Check.noPlace("shortName(-1)", () -> x.shortName(-1));
        Check.due("named", x.named(0, 9), one);
        Check.due("not named", x.named(one, 9), N);
        Check.due("the directory 0 has no name", x.named(0, 0), N);
        Check.noPlace("no parent, ahead of the name", () -> x.named(2, 10));
        Check.noArgument("name 10", () -> x.named(0, 10));
        Check.noArgument("name -1", () -> x.named(0, -1));
    }

    public static void main(String[] args) {
        directory();
        move();
        remove();
        names();
        Check.end();
    }
}
