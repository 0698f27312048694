import java.util.ArrayList;

/** Ordered keys in layers under one commit; the document's promises 1 to 35. */
public final class Keyterrace {
    public static final int NONE = Integer.MIN_VALUE;
    public static final int ABSENT = 10000;
    public static final int CONFLICT = -1, TOO_OLD = -2, LOST = -3;
    public static final int SET = 0, CLEARED = 1, ADDED = 2, MOST = 3, LEAST = 4, STAMPED_VALUE = 5, STAMPED_KEY = 6;

    // A change that was kept and is kept no more; it stays in its row so that readings can tell
    // by its length which changes were kept when they were made.
    private static final int GONE = 7;

    private static final int LOWEST_NUMBER = -999, HIGHEST_NUMBER = 9999;
    // One more than the highest number + 1000; an absent number is 0 in a code, the lowest one 1.
    private static final long BASE = 11000;
    private static final long ALL_LOW = 0, ALL_HIGH = BASE * BASE * BASE;

    private static final int RECORDS = -1, BY_FIELD = -2, BY_COUNT = -3, BY_VERSION = -4;
    private static final int WORK = -5, INDEX_STATES = -6, LEASES = -7;

    private static final int TRANSACTIONS = 4, MOST_CHANGES = 12, HIGHEST_VALUE = 1000000;
    private static final int OLDEST = 30, RECOVERY = 10, MOST_PASSED = 10;
    private static final int MOST_DIRECTORIES = 9, HIGHEST_NAME = 9;
    private static final int INDEXES = 3, HIGHEST_RECORD = 99, MOST_BUILT = 20;
    private static final int INDEX_ON = 1000, INDEX_OFF = -1000;
    private static final int MOST_WATCHES = 20, MOST_MARKS = 10;
    private static final int WORKERS = 3, LEASE = 10, LEASE_WORKER = 10000;
    private static final int SERVERS = 3, FULL_PART = 8, SPLIT_AHEAD = 4, SMALL_PARTS = 4;
    private static final int NOT_LOSING = 0, LOSING_DONE = 1, LOSING_UNDONE = 2;

    // Far above what 512 calls can need: calls behind these are refused room, not answered rightly.
    private static final int LAST_VERSION = 9000, MOST_KEYS = 1 << 16, MOST_ENTRIES = 1 << 20, MOST_SPANS = 1 << 14;

    private final Store store = new Store();
    private final Parting parting = new Parting();
    private final Cell cell = new Cell();
    private final ArrayList<Transaction> transactions = new ArrayList<Transaction>();
    private final ArrayList<Key> seen = new ArrayList<Key>();
    private final ArrayList<Directory> directories = new ArrayList<Directory>();
    private final ArrayList<Watch> watches = new ArrayList<Watch>();
    private final int[] marks = new int[MOST_MARKS];
    private int markCount = 0;
    private int generation = 0;
    private int losing = NOT_LOSING;
    private int lastMet = NONE;
    private int lastDirectory = 0;

    public Keyterrace() {
        for (int i = 0; i < TRANSACTIONS; i++) {
            transactions.add(new Transaction());
        }
        directories.add(new Directory(0, null, 0, 0));
    }

    // ---- transactions

    public int begin(int transaction, boolean once) throws IndexOutOfBoundsException {
        Transaction t = transactionAt(transaction);
        t.start(store.now, generation, once);
        return store.now;
    }

    public int get(int transaction, int a, int b, int c, boolean counts)
            throws IndexOutOfBoundsException, IllegalArgumentException, IllegalStateException {
        Transaction t = transactionAt(transaction);
        requireKey(a, b, c);
        requireBegun(t);
        long code = codeOf(a, b, c);
        t.look(cell, code, store.entryIn(code, t.readsAt));
        if (cell.stamped) {
            throw new IllegalStateException("the value is stamped");
        }
        if (counts) {
            t.putDownKey(code);
        }
        return cell.told();
    }

    public int range(int transaction, int a, int b, boolean counts)
            throws IndexOutOfBoundsException, IllegalArgumentException, IllegalStateException {
        Transaction t = transactionAt(transaction);
        requireRange(a, b);
        requireBegun(t);
        listSeen(t, lowOf(a, b), highOf(a, b));
        if (counts) {
            t.putDown(lowOf(a, b), highOf(a, b));
        }
        return seen.size();
    }

    public int rangeAt(int transaction, int a, int b, int place, int what)
            throws IndexOutOfBoundsException, IllegalArgumentException, IllegalStateException {
        Transaction t = transactionAt(transaction);
        if (place < 0) {
            throw new IndexOutOfBoundsException("no such place");
        }
        requireRange(a, b);
        if (what < 0 || what > 2) {
            throw new IllegalArgumentException("what is out of range");
        }
        requireBegun(t);
        listSeen(t, lowOf(a, b), highOf(a, b));
        t.putDown(lowOf(a, b), highOf(a, b));
        return place < seen.size() ? numberOf(seen.get(place).code, what) : NONE;
    }

    public int change(int transaction, int kind, int a, int b, int c, int value)
            throws IndexOutOfBoundsException, IllegalArgumentException, IllegalStateException {
        Transaction t = transactionAt(transaction);
        if (kind < SET || kind > STAMPED_KEY) {
            throw new IllegalArgumentException("kind is out of range");
        }
        if (kind != CLEARED && kind != STAMPED_VALUE && (value < -HIGHEST_VALUE || value > HIGHEST_VALUE)) {
            throw new IllegalArgumentException("value is out of range");
        }
        requireKey(a, b, c);
        requireAboveLayers(a);
        requireRoom(t);
        long code = codeOf(a, b, c);
        if (kind == STAMPED_KEY) {
            t.keepStamped(code, lastPlace(b, c), value);
        } else {
            keep(t, kind, code, value);
        }
        return t.kept;
    }

    public int clear(int transaction, int a, int b)
            throws IndexOutOfBoundsException, IllegalArgumentException, IllegalStateException {
        Transaction t = transactionAt(transaction);
        requireRange(a, b);
        if (a == ABSENT) {
            throw new IllegalArgumentException("all keys at all are not cleared");
        }
        requireAboveLayers(a);
        requireRoom(t);
        t.keepRange(lowOf(a, b), highOf(a, b));
        return t.kept;
    }

    public int commit(int transaction) throws IndexOutOfBoundsException, IllegalStateException {
        Transaction t = transactionAt(transaction);
        requireBegun(t);
        int told = toldUndone(t);
        if (told != NONE) {
            t.begun = false;
            return told;
        }
        boolean lost = losing != NOT_LOSING;
        boolean done = losing != LOSING_UNDONE;
        losing = NOT_LOSING;
        if (done) {
            settle(t);
        }
        t.begun = lost;
        return lost ? LOST : store.now;
    }

    public int why() {
        return lastMet;
    }

    public void lose(boolean done) {
        losing = done ? LOSING_DONE : LOSING_UNDONE;
    }

    public int recover() {
        generation++;
        store.advance(RECOVERY);
        return store.now;
    }

    public int pass(int many) throws IllegalArgumentException {
        if (many < 1 || many > MOST_PASSED) {
            throw new IllegalArgumentException("many is out of range");
        }
        store.advance(many);
        return store.now;
    }

    public int value(int version, int a, int b, int c) throws IllegalArgumentException {
        if (version < 0 || version > store.now) {
            throw new IllegalArgumentException("version is out of range");
        }
        requireKey(a, b, c);
        cell.load(store.entryIn(codeOf(a, b, c), version));
        return cell.told();
    }

    public int packed(int a, int b, int c, int place) throws IndexOutOfBoundsException, IllegalArgumentException {
        if (place < 0) {
            throw new IndexOutOfBoundsException("no such place");
        }
        requireKey(a, b, c);
        if (place / 3 > lastPlace(b, c)) {
            return NONE;
        }
        return byteOf(numberOf(codeOf(a, b, c), place / 3), place % 3);
    }

    public int version() {
        return store.now;
    }

    // ---- directories

    public int directory(int parent, int name)
            throws IndexOutOfBoundsException, IllegalArgumentException, IllegalStateException {
        Directory above = directoryAt(parent);
        requireName(name);
        if (childOf(above, name) != null || directories.size() > MOST_DIRECTORIES) {
            throw new IllegalStateException("the name is taken, or there are too many");
        }
        lastDirectory++;
        directories.add(new Directory(lastDirectory, above, name, freeShortName()));
        return lastDirectory;
    }

    public void move(int directory, int parent, int name)
            throws IndexOutOfBoundsException, IllegalArgumentException, IllegalStateException {
        Directory moved = directoryAt(directory);
        Directory above = directoryAt(parent);
        requireName(name);
        if (moved.number == 0 || isWithin(above, moved)) {
            throw new IllegalStateException("it cannot be moved there");
        }
        Directory there = childOf(above, name);
        if (there != null && there != moved) {
            throw new IllegalStateException("the name is taken");
        }
        moved.parent = above;
        moved.name = name;
    }

    public int remove(int directory) throws IndexOutOfBoundsException, IllegalStateException {
        Directory top = directoryAt(directory);
        if (top.number == 0) {
            throw new IllegalStateException("the directory 0 stays");
        }
        int held = heldWithin(top);
        if (held > 0) {
            wipeWithin(top);
        }
        for (int i = directories.size() - 1; i >= 0; i--) {
            if (isWithin(directories.get(i), top)) {
                directories.remove(i);
            }
        }
        return held;
    }

    public int shortName(int directory) throws IndexOutOfBoundsException {
        return directoryAt(directory).shortened;
    }

    public int named(int parent, int name) throws IndexOutOfBoundsException, IllegalArgumentException {
        Directory above = directoryAt(parent);
        requireName(name);
        Directory child = childOf(above, name);
        return child == null ? NONE : child.number;
    }

    // ---- records

    public int save(int transaction, int number, int field)
            throws IndexOutOfBoundsException, IllegalArgumentException, IllegalStateException {
        Transaction t = transactionAt(transaction);
        requireRecord(number);
        requireField(field);
        requireRoom(t);
        return writeRecord(t, number, field);
    }

    public int erase(int transaction, int number)
            throws IndexOutOfBoundsException, IllegalArgumentException, IllegalStateException {
        Transaction t = transactionAt(transaction);
        requireRecord(number);
        requireRoom(t);
        return writeRecord(t, number, NONE);
    }

    public int build(int index, int most)
            throws IndexOutOfBoundsException, IllegalArgumentException, IllegalStateException {
        requireIndex(index);
        if (most < 1 || most > MOST_BUILT) {
            throw new IllegalArgumentException("most is out of range");
        }
        int goes = indexGoesTo(store.valueNow(codeOf(INDEX_STATES, index)));
        if (goes == INDEX_ON) {
            throw new IllegalStateException("the index is on");
        }
        return buildBehind(index, goes, most);
    }

    public int off(int index) throws IndexOutOfBoundsException {
        requireIndex(index);
        long low = lowOf(BY_FIELD - index, ABSENT);
        long high = highOf(BY_FIELD - index, ABSENT);
        int held = store.listHeld(low, high).size();
        store.advance(1);
        store.wipe(low, high);
        store.alter(SET, codeOf(INDEX_STATES, index), INDEX_OFF);
        closeCommit();
        return held;
    }

    public int rank(int field) throws IllegalArgumentException {
        requireField(field);
        int sum = 0;
        for (int below = 0; below < field; below++) {
            cell.load(store.entryIn(codeOf(BY_COUNT, below), store.now));
            sum += cell.value;
        }
        return sum;
    }

    public int rankAnew(int field) throws IllegalArgumentException {
        requireField(field);
        int many = 0;
        for (int number = 0; number <= HIGHEST_RECORD; number++) {
            cell.load(store.entryIn(codeOf(RECORDS, number), store.now));
            if (cell.present && cell.value < field) {
                many++;
            }
        }
        return many;
    }

    // ---- watches, work, parts, marks

    public int watch(int a, int b, int c) throws IllegalArgumentException, IllegalStateException {
        requireKey(a, b, c);
        if (watches.size() >= MOST_WATCHES) {
            throw new IllegalStateException("there are too many watches");
        }
        watches.add(new Watch(store.keyFor(codeOf(a, b, c))));
        return watches.size() - 1;
    }

    public int fired(int watch) throws IndexOutOfBoundsException {
        if (watch < 0 || watch >= watches.size()) {
            throw new IndexOutOfBoundsException("no such watch");
        }
        return watches.get(watch).firedBy;
    }

    public int offer(int transaction, int value)
            throws IndexOutOfBoundsException, IllegalArgumentException, IllegalStateException {
        Transaction t = transactionAt(transaction);
        if (value < 0 || value > HIGHEST_VALUE) {
            throw new IllegalArgumentException("value is out of range");
        }
        requireRoom(t);
        t.keepStamped(codeOf(WORK, 0), 1, value);
        return t.kept;
    }

    public int take(int worker) throws IndexOutOfBoundsException {
        requireWorker(worker);
        Key work = firstWork(NONE);
        if (work == null) {
            return NONE;
        }
        store.advance(1);
        store.alter(SET, leaseOf(work), LEASE_WORKER * worker + store.now + LEASE);
        closeCommit();
        return store.valueNow(work.code);
    }

    public int finish(int worker) throws IndexOutOfBoundsException {
        requireWorker(worker);
        Key work = firstWork(worker);
        if (work == null) {
            return NONE;
        }
        int value = store.valueNow(work.code);
        store.advance(1);
        store.alter(CLEARED, work.code, 0);
        store.alter(CLEARED, leaseOf(work), 0);
        closeCommit();
        return value;
    }

    public int parts() {
        return parting.parts.size();
    }

    public int part(int place, int what) throws IndexOutOfBoundsException, IllegalArgumentException {
        if (place < 0 || place >= parting.parts.size()) {
            throw new IndexOutOfBoundsException("no such place");
        }
        if (what < 0 || what > 4) {
            throw new IllegalArgumentException("what is out of range");
        }
        Part part = parting.parts.get(place);
        if (what == 0) {
            return part.server;
        }
        if (what == 1) {
            return part.held;
        }
        return place == 0 ? NONE : numberOf(part.low, what - 2);
    }

    public int mark() throws IllegalStateException {
        if (markCount < 0 || markCount >= marks.length) {
            throw new IllegalStateException("there are too many marks");
        }
        marks[markCount] = store.now;
        markCount++;
        return markCount - 1;
    }

    public int bringBack(int mark) throws IndexOutOfBoundsException {
        if (mark < 0 || mark >= markCount || mark >= marks.length) {
            throw new IndexOutOfBoundsException("no such mark");
        }
        int version = marks[mark];
        int differing = store.countDiffering(version);
        if (differing > 0) {
            store.advance(1);
            store.restore(version);
            closeCommit();
        }
        return differing;
    }

    // What calls require.

    private Transaction transactionAt(int transaction) {
        if (transaction < 0 || transaction >= transactions.size()) {
            throw new IndexOutOfBoundsException("no such transaction");
        }
        return transactions.get(transaction);
    }

    private Directory directoryAt(int number) {
        Directory directory = findDirectory(number);
        if (directory == null) {
            throw new IndexOutOfBoundsException("no such directory");
        }
        return directory;
    }

    private static void requireIndex(int index) {
        if (index < 0 || index >= INDEXES) {
            throw new IndexOutOfBoundsException("no such index");
        }
    }

    private static void requireWorker(int worker) {
        if (worker < 0 || worker >= WORKERS) {
            throw new IndexOutOfBoundsException("no such worker");
        }
    }

    private static void requireKey(int a, int b, int c) {
        if (!isKey(a, b, c)) {
            throw new IllegalArgumentException("that is no key");
        }
    }

    private static void requireRange(int a, int b) {
        if (!isRange(a, b)) {
            throw new IllegalArgumentException("that is no range");
        }
    }

    private static void requireAboveLayers(int a) {
        if (a >= LEASES && a <= RECORDS) {
            throw new IllegalArgumentException("that is of the layers below");
        }
    }

    private static void requireName(int name) {
        if (name < 0 || name > HIGHEST_NAME) {
            throw new IllegalArgumentException("name is out of range");
        }
    }

    private static void requireRecord(int number) {
        if (number < 0 || number > HIGHEST_RECORD) {
            throw new IllegalArgumentException("number is out of range");
        }
    }

    private static void requireField(int field) {
        if (field < 0 || field > HIGHEST_RECORD) {
            throw new IllegalArgumentException("field is out of range");
        }
    }

    private static void requireBegun(Transaction t) {
        if (!t.begun) {
            throw new IllegalStateException("the transaction is over");
        }
    }

    private static void requireRoom(Transaction t) {
        requireBegun(t);
        if (t.kept >= MOST_CHANGES) {
            throw new IllegalStateException("the transaction keeps too many changes");
        }
    }

    // Keys as codes: longs in the same order as the packed bytes.

    private static boolean isNumber(int number) {
        return number >= LOWEST_NUMBER && number <= HIGHEST_NUMBER;
    }

    private static boolean isKey(int a, int b, int c) {
        if (b == ABSENT) {
            return isNumber(a) && c == ABSENT;
        }
        return isNumber(a) && isNumber(b) && (c == ABSENT || isNumber(c));
    }

    private static boolean isRange(int a, int b) {
        if (a == ABSENT) {
            return b == ABSENT;
        }
        return isNumber(a) && (b == ABSENT || isNumber(b));
    }

    private static int lastPlace(int b, int c) {
        if (b == ABSENT) {
            return 0;
        }
        return c == ABSENT ? 1 : 2;
    }

    private static long digitOf(int number) {
        return number == ABSENT ? 0 : number + 1000L;
    }

    private static long codeOf(int a, int b, int c) {
        return (digitOf(a) * BASE + digitOf(b)) * BASE + digitOf(c);
    }

    private static long codeOf(int a, int b) {
        return codeOf(a, b, ABSENT);
    }

    private static long unitOf(int place) {
        if (place == 0) {
            return BASE * BASE;
        }
        return place == 1 ? BASE : 1;
    }

    private static int numberOf(long code, int place) {
        long digit = code % BASE;
        if (place == 0) {
            digit = code / (BASE * BASE) % BASE;
        } else if (place == 1) {
            digit = code / BASE % BASE;
        }
        return digit == 0 ? ABSENT : (int) (digit - 1000);
    }

    private static long withNumber(long code, int place, int number) {
        return code + (digitOf(number) - digitOf(numberOf(code, place))) * unitOf(place);
    }

    private static long lowOf(int a, int b) {
        return a == ABSENT ? ALL_LOW : codeOf(a, b);
    }

    private static long highOf(int a, int b) {
        if (a == ABSENT) {
            return ALL_HIGH;
        }
        return codeOf(a, b) + unitOf(b == ABSENT ? 0 : 1);
    }

    private static int byteOf(int number, int place) {
        if (place == 0) {
            return number < 0 ? 1 : 2;
        }
        int rest = number < 0 ? number + 1000 : number;
        return place == 1 ? rest / 100 : rest % 100;
    }

    // Reading and changing in transactions.

    private void listSeen(Transaction t, long low, long high) {
        seen.clear();
        for (int i = store.placeFrom(low); i < store.keys.size(); i++) {
            Key key = store.keys.get(i);
            if (key.code >= high) {
                return;
            }
            t.look(cell, key.code, key.entryIn(t.readsAt));
            if (cell.present && !cell.stamped) {
                seen.add(key);
            }
        }
    }

    private void keep(Transaction t, int kind, long code, int value) {
        // Ranges are listed by the keys of the store, so it has each that a transaction changes.
        store.keyFor(code);
        t.keepKey(kind, code, value);
    }

    /** What a commit answers that changes nothing more; NONE if it is to be done. */
    private int toldUndone(Transaction t) {
        if (t.once && t.doneAt != NONE) {
            return t.doneAt;
        }
        if (t.kept == 0) {
            return t.readsAt;
        }
        if (store.now - t.readsAt > OLDEST || t.generation != generation) {
            return TOO_OLD;
        }
        int met = firstMet(t);
        if (met == NONE) {
            return NONE;
        }
        lastMet = met;
        return CONFLICT;
    }

    private void settle(Transaction t) {
        store.advance(1);
        for (int i = 0; i < t.changes.size(); i++) {
            store.applyInOrder(t.changes.get(i));
        }
        for (int i = 0; i < t.changes.size(); i++) {
            store.applyStamped(t.changes.get(i));
        }
        t.doneAt = store.now;
        closeCommit();
    }

    private void closeCommit() {
        for (int i = 0; i < watches.size(); i++) {
            Watch watch = watches.get(i);
            if (watch.firedBy == NONE && watch.key != null && watch.key.turnedIn(store.now)) {
                watch.firedBy = store.now;
            }
        }
        parting.split(store.listHeld(ALL_LOW, ALL_HIGH));
        parting.join();
    }

    private int firstMet(Transaction t) {
        for (int i = 0; i < t.readings.size(); i++) {
            Span reading = t.readings.get(i);
            if (keyMet(t, reading) || wipeMet(t, reading)) {
                return i;
            }
        }
        return NONE;
    }

    private boolean keyMet(Transaction t, Span reading) {
        for (Entry entry = store.newest; entry != null && entry.version > t.readsAt; entry = entry.earlier) {
            long code = entry.key.code;
            if (reading.low <= code && code < reading.high && !t.owns(code, code + 1, reading.since)) {
                return true;
            }
        }
        return false;
    }

    private boolean wipeMet(Transaction t, Span reading) {
        for (int i = store.wipes.size() - 1; i >= 0; i--) {
            Span wipe = store.wipes.get(i);
            if (wipe.since <= t.readsAt) {
                return false;
            }
            long low = Math.max(reading.low, wipe.low);
            long high = Math.min(reading.high, wipe.high);
            if (low < high && !t.owns(low, high, reading.since)) {
                return true;
            }
        }
        return false;
    }

    // Directories.

    private Directory findDirectory(int number) {
        for (int i = 0; i < directories.size(); i++) {
            Directory directory = directories.get(i);
            if (directory.number == number) {
                return directory;
            }
        }
        return null;
    }

    private Directory childOf(Directory parent, int name) {
        for (int i = 0; i < directories.size(); i++) {
            Directory directory = directories.get(i);
            if (directory.parent == parent && directory.name == name) {
                return directory;
            }
        }
        return null;
    }

    private static boolean isWithin(Directory directory, Directory top) {
        for (Directory at = directory; at != null; at = at.parent) {
            if (at == top) {
                return true;
            }
        }
        return false;
    }

    private int freeShortName() {
        for (int shortened = 1; shortened <= MOST_DIRECTORIES; shortened++) {
            if (!hasShortName(shortened)) {
                return shortened;
            }
        }
        return MOST_DIRECTORIES;
    }

    private boolean hasShortName(int shortened) {
        for (int i = 0; i < directories.size(); i++) {
            if (directories.get(i).shortened == shortened) {
                return true;
            }
        }
        return false;
    }

    private int heldWithin(Directory top) {
        int held = 0;
        for (int i = 0; i < directories.size(); i++) {
            Directory directory = directories.get(i);
            if (isWithin(directory, top)) {
                held += store.listHeld(directory.low(), directory.high()).size();
            }
        }
        return held;
    }

    private void wipeWithin(Directory top) {
        store.advance(1);
        for (int i = 0; i < directories.size(); i++) {
            Directory directory = directories.get(i);
            if (isWithin(directory, top)) {
                store.wipe(directory.low(), directory.high());
            }
        }
        closeCommit();
    }

    // Records.

    /** Up to which number an index goes, by what its key has. */
    private static int indexGoesTo(int state) {
        return state == NONE ? INDEX_ON : state;
    }

    private int readCounting(Transaction t, long code) {
        t.look(cell, code, store.entryIn(code, t.readsAt));
        t.putDownKey(code);
        return cell.told();
    }

    /** Reads the keys of the indexes; a bit for each that goes for a number. */
    private int readIndexes(Transaction t, int number) {
        int goes = 0;
        for (int index = 0; index < INDEXES; index++) {
            if (indexGoesTo(readCounting(t, codeOf(INDEX_STATES, index))) >= number) {
                goes |= 1 << index;
            }
        }
        return goes;
    }

    /** Saves a record, or, for the field NONE, erases it; answers the field before. */
    private int writeRecord(Transaction t, int number, int field) {
        int goes = readIndexes(t, number);
        int before = readCounting(t, codeOf(RECORDS, number));
        if (before == NONE && field == NONE) {
            return NONE;
        }
        for (int index = 0; index < INDEXES; index++) {
            boolean going = (goes & 1 << index) != 0;
            if (going && before != NONE) {
                takeAway(t, index, number, before);
            }
            if (going && field != NONE) {
                putThere(t, index, number, field);
            }
        }
        keep(t, field == NONE ? CLEARED : SET, codeOf(RECORDS, number), field);
        return before;
    }

    private void takeAway(Transaction t, int index, int number, int before) {
        if (index == 0) {
            keep(t, CLEARED, codeOf(BY_FIELD, before, number), 0);
        } else if (index == 1) {
            keep(t, ADDED, codeOf(BY_COUNT, before), -1);
        } else {
            takeAwayVersions(t, number);
        }
    }

    private void takeAwayVersions(Transaction t, int number) {
        listSeen(t, lowOf(BY_VERSION, ABSENT), highOf(BY_VERSION, ABSENT));
        for (int i = 0; i < seen.size(); i++) {
            long code = seen.get(i).code;
            if (numberOf(code, 2) == number) {
                keep(t, CLEARED, code, 0);
            }
        }
        t.forgetStamped(codeOf(BY_VERSION, 0, number));
    }

    private void putThere(Transaction t, int index, int number, int field) {
        if (index == 0) {
            keep(t, SET, codeOf(BY_FIELD, field, number), 0);
        } else if (index == 1) {
            keep(t, ADDED, codeOf(BY_COUNT, field), 1);
        } else {
            t.keepStamped(codeOf(BY_VERSION, 0, number), 1, field);
        }
    }

    private int buildBehind(int index, int goes, int most) {
        store.advance(1);
        int built = 0;
        int last = goes;
        boolean more = false;
        for (int number = Math.max(goes + 1, 0); number <= HIGHEST_RECORD && !more; number++) {
            int field = store.valueNow(codeOf(RECORDS, number));
            if (field != NONE && built == most) {
                more = true;
            } else if (field != NONE) {
                putNow(index, number, field);
                last = number;
                built++;
            }
        }
        store.alter(SET, codeOf(INDEX_STATES, index), more ? last : INDEX_ON);
        closeCommit();
        return built;
    }

    private void putNow(int index, int number, int field) {
        if (index == 0) {
            store.alter(SET, codeOf(BY_FIELD, field, number), 0);
        } else if (index == 1) {
            store.alter(ADDED, codeOf(BY_COUNT, field), 1);
        } else {
            store.alter(SET, codeOf(BY_VERSION, store.now, number), field);
        }
    }

    // Work.

    private static long leaseOf(Key work) {
        return codeOf(LEASES, numberOf(work.code, 1));
    }

    /** The first work that a worker has, or, for NONE, that nobody has. */
    private Key firstWork(int worker) {
        ArrayList<Key> works = store.listHeld(lowOf(WORK, ABSENT), highOf(WORK, ABSENT));
        for (int i = 0; i < works.size(); i++) {
            Key work = works.get(i);
            if (holderOf(store.valueNow(leaseOf(work))) == worker) {
                return work;
            }
        }
        return null;
    }

    private int holderOf(int lease) {
        if (lease == NONE || store.now >= lease % LEASE_WORKER) {
            return NONE;
        }
        return lease / LEASE_WORKER;
    }

    /** What one commit made of a key; behind the commit it changes no more. */
    private static final class Entry {
        final Key key;
        final int version;
        final Entry before;
        final Entry earlier;
        boolean present;
        int value;

        /** before: the one of this key, earlier: the one of any key, ahead of it. */
        Entry(Key key, int version, Entry before, Entry earlier) {
            this.key = key;
            this.version = version;
            this.before = before;
            this.earlier = earlier;
        }

        static boolean alike(Entry one, Entry other) {
            if (one == null || !one.present) {
                return other == null || !other.present;
            }
            return other != null && other.present && one.value == other.value;
        }
    }

    private static final class Key {
        final long code;
        Entry latest = null;

        Key(long code) {
            this.code = code;
        }

        Entry entryIn(int version) {
            Entry entry = latest;
            while (entry != null && entry.version > version) {
                entry = entry.before;
            }
            return entry;
        }

        boolean isHeld() {
            return latest != null && latest.present;
        }

        boolean turnedIn(int version) {
            return !Entry.alike(entryIn(version), entryIn(version - 1));
        }
    }

    /** Keys from low to ahead of high; since: the version of a wipe, or how many changes were kept ahead of a reading. */
    private static final class Span {
        final long low;
        final long high;
        final int since;

        Span(long low, long high, int since) {
            this.low = low;
            this.high = high;
            this.since = since;
        }
    }

    /** A value while changes are applied to it. */
    private static final class Cell {
        boolean present = false;
        boolean stamped = false;
        int value = 0;

        void load(Entry entry) {
            present = entry != null && entry.present;
            value = entry != null && entry.present ? entry.value : 0;
            stamped = false;
        }

        void apply(int kind, int given, int stamp) {
            switch (kind) {
                case CLEARED:
                    value = 0;
                    break;
                case ADDED:
                    value = present ? value + given : given;
                    break;
                case MOST:
                    value = present ? Math.max(value, given) : given;
                    break;
                case LEAST:
                    value = present ? Math.min(value, given) : given;
                    break;
                case STAMPED_VALUE:
                    value = stamp;
                    break;
                default:
                    value = given;
            }
            stamped = kind == STAMPED_VALUE || (stamped && kind != SET && kind != CLEARED);
            present = kind != CLEARED;
        }

        int told() {
            return present ? value : NONE;
        }
    }

    private static final class Change {
        int kind;
        final long low;
        final long high;
        final int value;
        final int place;

        /** place: which number of a stamped key is stamped. */
        Change(int kind, long low, long high, int value, int place) {
            this.kind = kind;
            this.low = low;
            this.high = high;
            this.value = value;
            this.place = place;
        }

        boolean isInOrder() {
            return kind != STAMPED_KEY && kind != GONE;
        }

        boolean isRange() {
            return high - low > 1;
        }

        /** Whether what keys have behind it does not hang on what they had ahead of it. */
        boolean saysAll() {
            return kind == SET || kind == CLEARED || kind == STAMPED_VALUE;
        }

        boolean covers(long code) {
            return isInOrder() && low <= code && code < high;
        }
    }

    private static final class Transaction {
        final ArrayList<Change> changes = new ArrayList<Change>();
        final ArrayList<Span> readings = new ArrayList<Span>();
        boolean begun = false;
        boolean once = false;
        int readsAt = 0;
        int generation = 0;
        int doneAt = NONE;
        int kept = 0;

        void start(int version, int generation, boolean once) {
            changes.clear();
            readings.clear();
            begun = true;
            this.once = once;
            readsAt = version;
            this.generation = generation;
            doneAt = NONE;
            kept = 0;
        }

        void keepKey(int kind, long code, int value) {
            changes.add(new Change(kind, code, code + 1, value, 0));
            kept++;
        }

        void keepRange(long low, long high) {
            changes.add(new Change(CLEARED, low, high, 0, 0));
            kept++;
        }

        void keepStamped(long code, int place, int value) {
            changes.add(new Change(STAMPED_KEY, code, code + 1, value, place));
            kept++;
        }

        void forgetStamped(long code) {
            for (int i = 0; i < changes.size(); i++) {
                Change change = changes.get(i);
                if (change.kind == STAMPED_KEY && change.low == code) {
                    change.kind = GONE;
                    kept--;
                }
            }
        }

        /** What the transaction sees of a key with this entry in the version at which it reads. */
        void look(Cell cell, long code, Entry there) {
            cell.load(there);
            for (int i = 0; i < changes.size(); i++) {
                Change change = changes.get(i);
                if (change.covers(code)) {
                    cell.apply(change.kind, change.value, 0);
                }
            }
        }

        /** Whether one of the first changes alone says what all keys from low to ahead of high have. */
        boolean owns(long low, long high, int first) {
            for (int i = 0; i < changes.size() && i < first; i++) {
                Change change = changes.get(i);
                if (change.saysAll() && change.low <= low && high <= change.high) {
                    return true;
                }
            }
            return false;
        }

        void putDown(long low, long high) {
            if (readings.size() < MOST_SPANS) {
                readings.add(new Span(low, high, changes.size()));
            }
        }

        void putDownKey(long code) {
            if (!owns(code, code + 1, changes.size())) {
                putDown(code, code + 1);
            }
        }
    }

    /** All keys that were ever named in a change, by their order, with what they were in all versions. */
    private static final class Store {
        final ArrayList<Key> keys = new ArrayList<Key>();
        final ArrayList<Span> wipes = new ArrayList<Span>();
        private final ArrayList<Key> held = new ArrayList<Key>();
        private final Cell cell = new Cell();
        private int entries = 0;
        Entry newest = null;
        int now = 0;

        void advance(int many) {
            now = Math.min(now + many, LAST_VERSION);
        }

        /** The place of the first key that is not ahead of a code. */
        int placeFrom(long code) {
            int low = 0;
            int high = keys.size();
            while (low < high) {
                int middle = (low + high) >>> 1;
                if (keys.get(middle).code < code) {
                    low = middle + 1;
                } else {
                    high = middle;
                }
            }
            return low;
        }

        Key find(long code) {
            int place = placeFrom(code);
            if (place >= keys.size()) {
                return null;
            }
            Key key = keys.get(place);
            return key.code == code ? key : null;
        }

        /** The key, made if it was not there; null only far behind the 512th call. */
        Key keyFor(long code) {
            int place = placeFrom(code);
            Key there = place < keys.size() ? keys.get(place) : null;
            if (there != null && there.code == code) {
                return there;
            }
            if (keys.size() >= MOST_KEYS) {
                return null;
            }
            Key key = new Key(code);
            keys.add(place, key);
            return key;
        }

        Entry entryIn(long code, int version) {
            Key key = find(code);
            return key == null ? null : key.entryIn(version);
        }

        int valueNow(long code) {
            cell.load(entryIn(code, now));
            return cell.told();
        }

        /** The keys with a value now; the list is used again by the next call. */
        ArrayList<Key> listHeld(long low, long high) {
            held.clear();
            for (int i = placeFrom(low); i < keys.size(); i++) {
                Key key = keys.get(i);
                if (key.code >= high) {
                    return held;
                }
                if (key.isHeld()) {
                    held.add(key);
                }
            }
            return held;
        }

        void applyInOrder(Change change) {
            if (!change.isInOrder()) {
                return;
            }
            if (change.isRange()) {
                wipe(change.low, change.high);
            } else {
                alter(change.kind, change.low, change.value);
            }
        }

        void applyStamped(Change change) {
            if (change.kind == STAMPED_KEY) {
                alter(SET, withNumber(change.low, change.place, now), change.value);
            }
        }

        void alter(int kind, long code, int given) {
            Key key = keyFor(code);
            if (key != null) {
                cell.load(key.latest);
                cell.apply(kind, given, now);
                write(key, cell);
            }
        }

        void wipe(long low, long high) {
            ArrayList<Key> wiped = listHeld(low, high);
            for (int i = 0; i < wiped.size(); i++) {
                cell.load(null);
                write(wiped.get(i), cell);
            }
            if (wipes.size() < MOST_SPANS) {
                wipes.add(new Span(low, high, now));
            }
        }

        private void write(Key key, Cell outcome) {
            Entry entry = key.latest;
            if (entry == null || entry.version != now) {
                if (entries >= MOST_ENTRIES) {
                    return;
                }
                entry = new Entry(key, now, key.latest, newest);
                key.latest = entry;
                newest = entry;
                entries++;
            }
            entry.present = outcome.present;
            entry.value = outcome.value;
        }

        int countDiffering(int version) {
            int many = 0;
            for (int i = 0; i < keys.size(); i++) {
                Key key = keys.get(i);
                if (!Entry.alike(key.latest, key.entryIn(version))) {
                    many++;
                }
            }
            return many;
        }

        void restore(int version) {
            for (int i = 0; i < keys.size(); i++) {
                Key key = keys.get(i);
                Entry there = key.entryIn(version);
                if (!Entry.alike(key.latest, there)) {
                    cell.load(there);
                    write(key, cell);
                }
            }
        }
    }

    /** Keys from low on, up to the next part; low is not looked at in the first one. */
    private static final class Part {
        final long low;
        final int server;
        int held = 0;

        Part(long low, int server) {
            this.low = low;
            this.server = server;
        }
    }

    private static final class Parting {
        final ArrayList<Part> parts = new ArrayList<Part>();

        Parting() {
            parts.add(new Part(ALL_LOW, 0));
        }

        /** Going once from the first part to the last one splits them in the document's order: what is split off comes next. */
        void split(ArrayList<Key> keys) {
            int from = 0;
            for (int i = 0; i < parts.size() && i <= MOST_KEYS; i++) {
                Part part = parts.get(i);
                int end = endOf(i, from, keys);
                if (end - from > FULL_PART && from + SPLIT_AHEAD < keys.size()) {
                    parts.add(i + 1, new Part(keys.get(from + SPLIT_AHEAD).code, idlest()));
                    end = from + SPLIT_AHEAD;
                }
                part.held = end - from;
                from = end;
            }
        }

        /** The place behind the last key of a part whose first one has the place from. */
        private int endOf(int part, int from, ArrayList<Key> keys) {
            if (part + 1 >= parts.size()) {
                return keys.size();
            }
            long high = parts.get(part + 1).low;
            int end = from;
            while (end < keys.size() && keys.get(end).code < high) {
                end++;
            }
            return end;
        }

        void join() {
            int i = 0;
            while (i + 1 < parts.size()) {
                Part first = parts.get(i);
                int together = first.held + parts.get(i + 1).held;
                if (together < SMALL_PARTS) {
                    first.held = together;
                    parts.remove(i + 1);
                } else {
                    i++;
                }
            }
        }

        /** The lowest one of the servers with the fewest parts. */
        private int idlest() {
            int idlest = 0;
            for (int server = 1; server < SERVERS; server++) {
                if (countOf(server) < countOf(idlest)) {
                    idlest = server;
                }
            }
            return idlest;
        }

        private int countOf(int server) {
            int many = 0;
            for (int i = 0; i < parts.size(); i++) {
                if (parts.get(i).server == server) {
                    many++;
                }
            }
            return many;
        }
    }

    private static final class Directory {
        final int number;
        final int shortened;
        Directory parent;
        int name;

        Directory(int number, Directory parent, int name, int shortened) {
            this.number = number;
            this.parent = parent;
            this.name = name;
            this.shortened = shortened;
        }

        long low() {
            return lowOf(shortened, ABSENT);
        }

        long high() {
            return highOf(shortened, ABSENT);
        }
    }

    private static final class Watch {
        final Key key;
        int firedBy = NONE;

        Watch(Key key) {
            this.key = key;
        }
    }
}
