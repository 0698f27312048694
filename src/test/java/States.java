/** Objects in states in which calls are refused: new ones, ones in use, and ones that are full. */
final class States {
    static final int A = Keyterrace.ABSENT;
    private static final int SET = Keyterrace.SET, ADDED = Keyterrace.ADDED;
    private static final int STAMPED_VALUE = Keyterrace.STAMPED_VALUE, STAMPED_KEY = Keyterrace.STAMPED_KEY;

    private States() {
    }

    /** Sets a key by a commit of the transaction 3; answers the version. */
    static int put(Keyterrace x, int a, int b, int c, int value) {
        x.begin(3, false);
        x.change(3, SET, a, b, c, value);
        return x.commit(3);
    }

    /** Sets keys (a, from) to (a, to), at most 12, by a commit of the transaction 3. */
    static int fill(Keyterrace x, int a, int from, int to) {
        x.begin(3, false);
        for (int b = from; b <= to; b++) {
            x.change(3, SET, a, b, A, 1);
        }
        return x.commit(3);
    }

    static int clearKey(Keyterrace x, int a, int b, int c) {
        x.begin(3, false);
        x.change(3, Keyterrace.CLEARED, a, b, c, 0);
        return x.commit(3);
    }

    static int clearRange(Keyterrace x, int a, int b) {
        x.begin(3, false);
        x.clear(3, a, b);
        return x.commit(3);
    }

    /** Offers work by a commit of the transaction 3; answers the version, the second number of its key. */
    static int offered(Keyterrace x, int value) {
        x.begin(3, false);
        x.offer(3, value);
        return x.commit(3);
    }

    /** Saves a record by a commit of the transaction 3; answers the version. */
    static int saved(Keyterrace x, int number, int field) {
        x.begin(3, false);
        x.save(3, number, field);
        return x.commit(3);
    }

    static Keyterrace fresh() {
        return new Keyterrace();
    }

    /**
     * Directories 1, 2 below it, and 3; the index 0 ON, 1 up to 1, 2 OFF; work of which the worker 0 has the first; two
     * watches and a mark; the transaction 0 with a STAMPED value of (1, 5), 1 LOST, done and ONCE, 2 and 3 over.
     */
    static Keyterrace busy() {
        Keyterrace x = new Keyterrace();
        x.directory(0, 1);
        x.directory(1, 2);
        x.directory(0, 3);
        fill(x, 1, 1, 3);
        fill(x, 2, 1, 2);
        put(x, 3, A, A, 4);
        saved(x, 1, 1);
        saved(x, 2, 2);
        saved(x, 3, 2);
        offered(x, 7);
        offered(x, 8);
        x.take(0);
        x.off(1);
        x.build(1, 1);
        x.off(2);
        x.watch(1, 1, A);
        x.watch(2, A, A);
        x.mark();
        x.begin(0, false);
        x.change(0, ADDED, 1, 1, A, 5);
        x.change(0, STAMPED_VALUE, 1, 5, A, 0);
        x.change(0, STAMPED_KEY, 1, 0, A, 6);
        x.begin(1, true);
        x.change(1, SET, 2, 1, A, 9);
        x.lose(true);
        x.commit(1);
        x.begin(2, false);
        x.commit(2);
        return x;
    }

    /**
     * 9 directories, 20 watches, 10 marks; the transactions 0 and 1 keep 12 and 15 changes, 2 is over and 3 was a
     * CONFLICT; the answer of the next commit is LOST; all work is taken.
     */
    static Keyterrace full() {
        Keyterrace x = new Keyterrace();
        for (int name = 0; name < 9; name++) {
            x.directory(name / 3, name);
        }
        for (int i = 0; i < 20; i++) {
            x.watch(1, i + 1, A);
        }
        offered(x, 3);
        x.take(1);
        for (int i = 0; i < 10; i++) {
            x.mark();
        }
        x.begin(2, false);
        x.get(2, 1, 1, A, true);
        x.change(2, SET, 2, 1, A, 1);
        fill(x, 1, 1, 10);
        x.commit(2);
        x.begin(0, false);
        for (int b = 1; b <= 12; b++) {
            x.change(0, b == 1 ? STAMPED_VALUE : ADDED, 1, b, A, 1);
        }
        x.begin(1, false);
        for (int b = 1; b <= 11; b++) {
            x.change(1, STAMPED_KEY, 2, b, b, 1);
        }
        x.save(1, 1, 1);
        x.lose(true);
        return x;
    }
}
