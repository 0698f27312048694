/** The edges of commits, lost answers, recoveries and versions: Terms, and the promises 8 and 10 to 12. */
public final class CommitEdgesTest {
    private static final int A = Keyterrace.ABSENT, N = Keyterrace.NONE;
    private static final int SET = Keyterrace.SET, CLEARED = Keyterrace.CLEARED, ADDED = Keyterrace.ADDED;
    private static final int CONFLICT = Keyterrace.CONFLICT, TOO_OLD = Keyterrace.TOO_OLD, LOST = Keyterrace.LOST;

    /** Begins the transaction 0, which adds 1 to the key (1), and reads (2). */
    private static Keyterrace adding(boolean once) {
        Keyterrace x = new Keyterrace();
        x.begin(0, once);
        x.get(0, 2, A, A, true);
        x.change(0, ADDED, 1, A, A, 1);
        return x;
    }

    private static void isOver(String what, Keyterrace x) {
        Check.noState(what + ": commit", () -> x.commit(0));
        Check.noState(what + ": get", () -> x.get(0, 2, A, A, true));
        Check.noState(what + ": range", () -> x.range(0, 2, A, true));
        Check.noState(what + ": rangeAt", () -> x.rangeAt(0, 2, A, 0, 0));
        Check.noState(what + ": change", () -> x.change(0, SET, 2, A, A, 1));
        Check.noState(what + ": clear", () -> x.clear(0, 2, A));
        Check.noState(what + ": save", () -> x.save(0, 1, 1));
        Check.noState(what + ": erase", () -> x.erase(0, 1));
        Check.noState(what + ": offer", () -> x.offer(0, 1));
    }

    private static void nothingChanged() {
        Check.says(0, "To commit: if it changed nothing, it is done, and the version is that at which it reads.");
        Keyterrace x = new Keyterrace();
        x.pass(2);
        x.begin(0, false);
        Check.due("that at which it reads", x.commit(0), 2);
        x.begin(0, false);
        x.get(0, 1, A, A, true);
        States.put(x, 1, A, A, 1);
        Check.due("with what would be a CONFLICT", x.commit(0), 2);
        x.begin(0, false);
        for (int i = 0; i < 4; i++) {
            x.pass(10);
        }
        Check.due("with what would be TOO_OLD", x.commit(0), 3);
        x.begin(0, true);
        x.recover();
        Check.due("of another generation", x.commit(0), 43);
        Check.due("no version by that", x.version(), 53);
        x.begin(0, false);
        x.erase(0, 5);
        States.saved(x, 5, 5);
        Check.due("an erase of what is not there changes nothing", x.commit(0), 53);
        x.begin(0, false);
        x.range(0, A, A, true);
        x.rangeAt(0, A, A, 0, 0);
        Check.due("readings change nothing", x.commit(0), 54);
        isOver("done without changes", x);
    }

    private static int behind(int versions) {
        Keyterrace x = adding(false);
        for (int left = versions; left > 0; left -= 10) {
            x.pass(Math.min(left, 10));
        }
        return x.commit(0);
    }

    private static void tooOld() {
        Check.says(0, "If that is more than 30 below the version of now, or the generation is another one, it is TOO_OLD.");
        Check.due("0 below", behind(0), 1);
        Check.due("29 below", behind(29), 30);
        Check.due("30 below", behind(30), 31);
        Check.due("31 below", behind(31), TOO_OLD);
        Check.due("100 below", behind(100), TOO_OLD);
        Keyterrace x = adding(false);
        x.recover();
        Check.due("10 below, of another generation", x.commit(0), TOO_OLD);
        Check.due("nothing is done", x.version(), 10);
        Check.due("the key has no value", x.value(10, 1, A, A), N);
        isOver("TOO_OLD", x);
        x = adding(false);
        x.pass(10);
        Check.due("10 below, of the same one", x.commit(0), 11);
        x = adding(false);
        for (int i = 0; i < 3; i++) {
            x.pass(10);
        }
        States.put(x, 2, A, A, 1);
        Check.due("31 below by a commit, ahead of a CONFLICT", x.commit(0), TOO_OLD);
        Check.due("no CONFLICT", x.why(), N);
        x = new Keyterrace();
        x.recover();
        x.begin(0, false);
        x.change(0, SET, 1, A, A, 1);
        Check.due("begun behind a recovery", x.commit(0), 11);
    }

    private static void outcomes() {
        Check.says(8, "`transaction`: 0 to 3");
        Check.says(8, "Returns the version; CONFLICT, TOO_OLD or LOST.");
        Keyterrace x = new Keyterrace();
        for (int t = 0; t <= 3; t++) {
            x.begin(t, false);
            x.get(t, t, A, A, true);
            x.change(t, SET, t + 1, A, A, 1);
        }
        Check.noPlace("-1", () -> x.commit(-1));
        Check.noPlace("4", () -> x.commit(4));
        x.lose(false);
        Check.due("LOST", x.commit(0), LOST);
        Check.due("the version", x.commit(0), 1);
        Check.due("CONFLICT", x.commit(1), CONFLICT);
        Check.due("its own reading", x.why(), 0);
        Check.due("none of the others", x.commit(3), 2);
        x.recover();
        Check.due("TOO_OLD", x.commit(2), TOO_OLD);
        Check.says(8, "Commits.");
        Check.due("done", x.value(1, 1, A, A), 1);
        Check.due("done", x.value(2, 4, A, A), 1);
        Check.due("not done", x.value(12, 2, A, A), N);
        Check.due("not done", x.value(12, 3, A, A), N);
        Check.says(0, "Whatever comes of it, it is over then.");
        Keyterrace done = adding(false);
        done.commit(0);
        isOver("done", done);
        Keyterrace conflict = adding(false);
        States.put(conflict, 2, A, A, 1);
        conflict.commit(0);
        isOver("CONFLICT", conflict);
        Keyterrace once = adding(true);
        once.lose(true);
        once.commit(0);
        once.commit(0);
        isOver("ONCE, told again", once);
    }

    private static void lostAnswers() {
        Check.says(0, "It can be told that the answer of the next commit() that would be done, with changes, is LOST: then it "
            + "is done, or it is not, as is told;");
        Check.says(10, "Tells that the answer of a commit is LOST.");
        Check.says(10, "`done`: whether it is done");
        Keyterrace x = adding(false);
        x.lose(true);
        Check.due("done", x.commit(0), LOST);
        Check.due("a version more", x.version(), 1);
        Check.due("its change", x.value(1, 1, A, A), 1);
        Keyterrace y = adding(false);
        y.lose(false);
        Check.due("not done", y.commit(0), LOST);
        Check.due("no version more", y.version(), 0);
        Check.due("no change", y.value(0, 1, A, A), N);
        Check.due("the next one alone", y.commit(0), 1);
        y.lose(true);
        y.lose(false);
        y.begin(0, false);
        y.change(0, ADDED, 1, A, A, 1);
        Check.due("as is told last", y.commit(0), LOST);
        Check.due("not done", y.version(), 1);
        Check.due("told once for both", y.commit(0), 2);
        notLost();
        Check.says(0, "the transaction is not over then, and can be committed again, with all that it read and changed.");
        x.change(0, ADDED, 3, A, A, 1);
        Check.due("it goes on, at the version at which it read", x.get(0, 1, A, A, false), 1);
        Check.due("all that it changed", x.commit(0), 2);
        Check.due("twice", x.value(2, 1, A, A), 2);
        Check.due("once", x.value(2, 3, A, A), 1);
        x = adding(false);
        x.lose(false);
        x.commit(0);
        States.put(x, 2, A, A, 1);
        Check.due("all that it read", x.commit(0), CONFLICT);
        x = adding(false);
        x.lose(false);
        x.commit(0);
        x.lose(false);
        Check.due("LOST again", x.commit(0), LOST);
        x.recover();
        Check.due("of another generation then", x.commit(0), TOO_OLD);
        x = adding(false);
        x.get(0, 1, A, A, true);
        x.lose(true);
        x.commit(0);
        Check.due("what it read and changed meets it", x.commit(0), CONFLICT);
        Check.due("the second reading", x.why(), 1);
    }

    /** What does not use up that an answer is to be LOST. */
    private static void notLost() {
        Keyterrace x = adding(false);
        x.begin(1, false);
        x.lose(true);
        Check.due("one without changes is not", x.commit(1), 0);
        x.recover();
        Check.due("nor one that is TOO_OLD", x.commit(0), TOO_OLD);
        x.begin(0, false);
        x.get(0, 2, A, A, true);
        x.change(0, SET, 1, A, A, 1);
        x.begin(1, true);
        x.change(1, SET, 2, A, A, 1);
        Check.due("one of these is", x.commit(1), LOST);
        x.lose(true);
        Check.due("nor a CONFLICT", x.commit(0), CONFLICT);
        Check.due("nor one that is ONCE, and was done", x.commit(1), 11);
        x.off(0);
        x.build(0, 1);
        x.take(0);
        x.mark();
        x.bringBack(0);
        Check.due("no commit but commit()", x.version(), 13);
        Check.due("but the next that would be done", States.put(x, 1, A, A, 1), LOST);
        Check.due("not the one behind it", x.commit(3), 15);
    }

    private static void once() {
        Check.says(0, "If it is ONCE, and was done, nothing is done then, ahead of all else, and that version is told.");
        Keyterrace x = adding(true);
        x.lose(true);
        x.commit(0);
        x.change(0, ADDED, 3, A, A, 1);
        States.put(x, 2, A, A, 1);
        for (int i = 0; i < 4; i++) {
            x.recover();
        }
        Check.due("ahead of CONFLICT and TOO_OLD", x.commit(0), 1);
        Check.due("nothing is done", x.version(), 42);
        Check.due("once", x.value(42, 1, A, A), 1);
        Check.due("nothing of what was changed behind", x.value(42, 3, A, A), N);
        Check.due("no CONFLICT", x.why(), N);
        x = adding(true);
        x.lose(false);
        x.commit(0);
        Check.due("ONCE, but not done", x.commit(0), 1);
        Check.due("done then", x.value(1, 1, A, A), 1);
        x = adding(true);
        x.lose(false);
        x.commit(0);
        x.lose(true);
        x.commit(0);
        x.pass(3);
        Check.due("done the second time", x.commit(0), 1);
        x = adding(false);
        x.lose(true);
        x.commit(0);
        x.pass(3);
        Check.due("not ONCE", x.commit(0), 5);
        x = adding(true);
        Check.due("ONCE, and its answer is not LOST", x.commit(0), 1);
        isOver("ONCE", x);
    }

    private static void recoveries() {
        Check.says(0, "A recovery makes the generation 1 more, and the version 10 more.");
        Check.says(11, "Recovers; returns the version.");
        Keyterrace x = adding(false);
        x.begin(1, true);
        x.change(1, ADDED, 1, A, A, 1);
        Check.due("10 more", x.recover(), 10);
        Check.due("the version of now", x.version(), 10);
        Check.due("the generation of the one ahead", x.commit(0), TOO_OLD);
        x.begin(0, false);
        x.change(0, ADDED, 1, A, A, 1);
        Check.due("again", x.recover(), 20);
        x.begin(2, false);
        x.change(2, ADDED, 1, A, A, 1);
        Check.due("that of two ahead", x.commit(1), TOO_OLD);
        Check.due("that of one ahead", x.commit(0), TOO_OLD);
        Check.due("that of now", x.commit(2), 21);
        Check.due("the keys stay", x.value(21, 1, A, A), 1);
        x.begin(2, false);
        Check.due("they can be read", x.get(2, 1, A, A, true), 1);
        x.recover();
        Check.due("behind a recovery, too", x.get(2, 1, A, A, true), 1);
    }

    private static void passing() {
        Check.says(12, "Lets versions go by.");
        Check.says(12, "`many`: 1 to 10");
        Keyterrace x = new Keyterrace();
        Check.noArgument("0", () -> x.pass(0));
        Check.due("1", x.pass(1), 1);
        Check.due("10", x.pass(10), 11);
        Check.noArgument("11", () -> x.pass(11));
        Check.says(12, "Returns the version.");
        for (int many = 1, due = 11; many <= 10; many++) {
            due += many;
            Check.due("pass(" + many + ")", x.pass(many), due);
            Check.due("the version of now", x.version(), due);
        }
        x.watch(1, A, A);
        States.put(x, 1, A, A, 5);
        x.pass(3);
        Check.due("keys stay", x.value(x.version(), 1, A, A), 5);
        x.begin(0, false);
        x.get(0, 1, A, A, true);
        x.change(0, CLEARED, 1, A, A, 0);
        x.pass(3);
        Check.due("no key is changed by that", x.commit(0), x.version());
        Check.due("no watch is fired by that", x.fired(0), 67);
    }

    public static void main(String[] args) {
        nothingChanged();
        tooOld();
        outcomes();
        lostAnswers();
        once();
        recoveries();
        passing();
        Check.end();
    }
}
