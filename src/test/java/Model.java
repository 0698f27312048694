import java.util.ArrayList;
import java.util.Comparator;
import java.util.HashSet;
import java.util.LinkedHashMap;
import java.util.List;
import java.util.Map;
import java.util.Set;
import java.util.TreeMap;

/**
 * The document once more, in another way: whole copies of all keys for each version, keys as lists in the order of
 * their packed bytes. It is slow and plain; ModelTest compares the program with it.
 */
final class Model {
    static final int NONE = Integer.MIN_VALUE, ABSENT = 10000, CONFLICT = -1, TOO_OLD = -2, LOST = -3;

    private static final Comparator<List<Integer>> ORDER = (x, y) -> {
        List<Integer> p = bytes(x), q = bytes(y);
        for (int i = 0; i < p.size() && i < q.size(); i++) {
            if (!p.get(i).equals(q.get(i))) {
                return p.get(i) - q.get(i);
            }
        }
        return p.size() - q.size();
    };

    private record Change(int kind, List<Integer> key, boolean range, int value, int place) {
    }

    private record Reading(List<Integer> key, boolean range, List<Change> then) {
    }

    private record Written(int version, List<Integer> key, boolean range) {
    }

    /** A value seen in a transaction; null in a view is a stamped one. */
    private static final class Tx {
        boolean begun, once;
        int at, generation;
        Integer done;
        List<Change> changes = new ArrayList<>();
        List<Reading> readings = new ArrayList<>();
    }

    private static final class Dir {
        int parent, name, shortName;
    }

    private static final class P {
        List<Integer> first;
        int server;
    }

    private final Tx[] txs = {new Tx(), new Tx(), new Tx(), new Tx()};
    private TreeMap<List<Integer>, Integer> now = new TreeMap<>(ORDER);
    private final TreeMap<Integer, TreeMap<List<Integer>, Integer>> past = new TreeMap<>();
    private final List<Written> log = new ArrayList<>();
    private int version = 0, generation = 0, why = NONE, lastDir = 0;
    private Boolean lose = null;
    private final Map<Integer, Dir> dirs = new LinkedHashMap<>();
    private final List<List<Integer>> watched = new ArrayList<>();
    private final List<Integer> firedBy = new ArrayList<>();
    private final List<P> parts = new ArrayList<>();
    private final List<Integer> marks = new ArrayList<>();

    Model() {
        past.put(0, copy(now));
        dirs.put(0, new Dir());
        dirs.get(0).parent = -1;
        parts.add(new P());
    }

    private static List<Integer> bytes(List<Integer> key) {
        List<Integer> out = new ArrayList<>();
        for (int n : key) {
            int m = n < 0 ? n + 1000 : n;
            out.add(n < 0 ? 1 : 2);
            out.add(m / 100);
            out.add(m % 100);
        }
        return out;
    }

    private static TreeMap<List<Integer>, Integer> copy(TreeMap<List<Integer>, Integer> map) {
        TreeMap<List<Integer>, Integer> out = new TreeMap<>(ORDER);
        out.putAll(map);
        return out;
    }

    private static List<Integer> key(int... numbers) {
        List<Integer> out = new ArrayList<>();
        for (int n : numbers) {
            if (n != ABSENT) {
                out.add(n);
            }
        }
        return out;
    }

    private static boolean within(List<Integer> key, List<Integer> prefix) {
        return key.size() >= prefix.size() && key.subList(0, prefix.size()).equals(prefix);
    }

    private static void place(boolean ok) {
        if (!ok) {
            throw new IndexOutOfBoundsException();
        }
    }

    private static void argument(boolean ok) {
        if (!ok) {
            throw new IllegalArgumentException();
        }
    }

    private static void state(boolean ok) {
        if (!ok) {
            throw new IllegalStateException();
        }
    }

    private static boolean number(int n) {
        return -999 <= n && n <= 9999;
    }

    private static void keyArgument(int a, int b, int c) {
        argument(number(a) && (number(b) && (number(c) || c == ABSENT) || b == ABSENT && c == ABSENT));
    }

    private static void rangeArgument(int a, int b) {
        argument(a == ABSENT && b == ABSENT || number(a) && (number(b) || b == ABSENT));
    }

    private Tx tx(int transaction) {
        place(0 <= transaction && transaction <= 3);
        return txs[transaction];
    }

    private static void room(Tx t) {
        state(t.begun && t.changes.size() < 12);
    }

    private TreeMap<List<Integer>, Integer> in(int v) {
        return past.floorEntry(v).getValue();
    }

    /** What a transaction sees; keys with a stamped value are in the set. */
    private TreeMap<List<Integer>, Integer> view(Tx t, Set<List<Integer>> stamped) {
        TreeMap<List<Integer>, Integer> view = copy(in(t.at));
        for (Change c : t.changes) {
            if (c.kind == 5) {
                stamped.add(c.key);
                view.put(c.key, 0);
            } else if (c.kind != 6) {
                if (c.kind <= 1) {
                    stamped.removeIf(k -> c.range ? within(k, c.key) : k.equals(c.key));
                }
                apply(view, c, 0);
            }
        }
        return view;
    }

    private static void apply(TreeMap<List<Integer>, Integer> map, Change c, int stamp) {
        Integer old = map.get(c.key);
        switch (c.kind) {
            case 0 -> map.put(c.key, c.value);
            case 1 -> map.keySet().removeIf(k -> c.range ? within(k, c.key) : k.equals(c.key));
            case 2 -> map.put(c.key, (old == null ? 0 : old) + c.value);
            case 3 -> map.put(c.key, old == null || old < c.value ? c.value : old);
            case 4 -> map.put(c.key, old == null || old > c.value ? c.value : old);
            case 5 -> map.put(c.key, stamp);
            default -> {
                List<Integer> key = new ArrayList<>(c.key);
                key.set(c.place, stamp);
                map.put(key, c.value);
            }
        }
    }

    private static boolean own(List<Integer> key, List<Change> changes) {
        for (Change c : changes) {
            if ((c.kind <= 1 || c.kind == 5) && (c.range ? within(key, c.key) : key.equals(c.key))) {
                return true;
            }
        }
        return false;
    }

    private List<List<Integer>> seen(Tx t, List<Integer> prefix) {
        Set<List<Integer>> stamped = new HashSet<>();
        List<List<Integer>> out = new ArrayList<>(view(t, stamped).keySet());
        out.removeIf(k -> !within(k, prefix) || stamped.contains(k));
        return out;
    }

    private int read(Tx t, List<Integer> key, boolean counts) {
        Set<List<Integer>> stamped = new HashSet<>();
        Integer value = view(t, stamped).get(key);
        state(!stamped.contains(key));
        if (counts && !own(key, t.changes)) {
            t.readings.add(new Reading(key, false, List.copyOf(t.changes)));
        }
        return value == null ? NONE : value;
    }

    int begin(int transaction, boolean once) {
        tx(transaction);
        Tx t = new Tx();
        t.begun = true;
        t.once = once;
        t.at = version;
        t.generation = generation;
        txs[transaction] = t;
        return version;
    }

    int get(int transaction, int a, int b, int c, boolean counts) {
        Tx t = tx(transaction);
        keyArgument(a, b, c);
        state(t.begun);
        return read(t, key(a, b, c), counts);
    }

    int range(int transaction, int a, int b, boolean counts) {
        Tx t = tx(transaction);
        rangeArgument(a, b);
        state(t.begun);
        if (counts) {
            t.readings.add(new Reading(key(a, b), true, List.copyOf(t.changes)));
        }
        return seen(t, key(a, b)).size();
    }

    int rangeAt(int transaction, int a, int b, int place, int what) {
        Tx t = tx(transaction);
        place(place >= 0);
        rangeArgument(a, b);
        argument(0 <= what && what <= 2);
        state(t.begun);
        t.readings.add(new Reading(key(a, b), true, List.copyOf(t.changes)));
        List<List<Integer>> seen = seen(t, key(a, b));
        if (place >= seen.size()) {
            return NONE;
        }
        return what < seen.get(place).size() ? seen.get(place).get(what) : ABSENT;
    }

    int change(int transaction, int kind, int a, int b, int c, int value) {
        Tx t = tx(transaction);
        argument(0 <= kind && kind <= 6);
        argument(kind == 1 || kind == 5 || -1000000 <= value && value <= 1000000);
        keyArgument(a, b, c);
        argument(a < -7 || a > -1);
        room(t);
        List<Integer> key = key(a, b, c);
        t.changes.add(new Change(kind, key, false, value, key.size() - 1));
        return t.changes.size();
    }

    int clear(int transaction, int a, int b) {
        Tx t = tx(transaction);
        argument(a != ABSENT);
        rangeArgument(a, b);
        argument(a < -7 || a > -1);
        room(t);
        t.changes.add(new Change(1, key(a, b), true, 0, 0));
        return t.changes.size();
    }

    int commit(int transaction) {
        Tx t = tx(transaction);
        state(t.begun);
        t.begun = false;
        if (t.once && t.done != null) {
            return t.done;
        }
        if (t.changes.isEmpty()) {
            return t.at;
        }
        if (t.at < version - 30 || t.generation != generation) {
            return TOO_OLD;
        }
        for (int i = 0; i < t.readings.size(); i++) {
            if (met(t, t.readings.get(i))) {
                why = i;
                return CONFLICT;
            }
        }
        Boolean lost = lose;
        lose = null;
        if (lost == null || lost) {
            List<Change> all = new ArrayList<>(t.changes);
            all.sort(Comparator.comparing(c -> c.kind == 6));
            commitAll(all);
        }
        if (lost == null) {
            return version;
        }
        if (lost) {
            t.done = version;
        }
        t.begun = true;
        return LOST;
    }

    private boolean met(Tx t, Reading r) {
        for (Written w : log) {
            if (w.version > t.at && met(r, w)) {
                return true;
            }
        }
        return false;
    }

    private static boolean met(Reading r, Written w) {
        if (!w.range) {
            return (r.range ? within(w.key, r.key) : w.key.equals(r.key)) && !(r.range && own(w.key, r.then));
        }
        if (!r.range) {
            return within(r.key, w.key);
        }
        List<Integer> both = within(r.key, w.key) ? r.key : w.key;
        if (!within(both, r.key)) {
            return false;
        }
        for (Change c : r.then) {
            if (c.range && within(both, c.key)) {
                return false;
            }
        }
        return true;
    }

    /** By one commit: the next version, with all these changes in it. */
    private void commitAll(List<Change> changes) {
        version++;
        TreeMap<List<Integer>, Integer> old = copy(now);
        for (Change c : changes) {
            apply(now, c, version);
            List<Integer> key = new ArrayList<>(c.key);
            if (c.kind == 6) {
                key.set(c.place, version);
            }
            log.add(new Written(version, key, c.range));
        }
        past.put(version, copy(now));
        for (int i = 0; i < watched.size(); i++) {
            Integer was = old.get(watched.get(i)), is = now.get(watched.get(i));
            if (firedBy.get(i) == NONE && !java.util.Objects.equals(was, is)) {
                firedBy.set(i, version);
            }
        }
        partAgain();
    }

    private List<List<Integer>> keysOf(int part) {
        List<List<Integer>> out = new ArrayList<>();
        for (List<Integer> k : now.keySet()) {
            boolean ahead = part + 1 < parts.size() && ORDER.compare(k, parts.get(part + 1).first) >= 0;
            boolean behind = part > 0 && ORDER.compare(k, parts.get(part).first) < 0;
            if (!ahead && !behind) {
                out.add(k);
            }
        }
        return out;
    }

    private void partAgain() {
        boolean again = true;
        while (again) {
            again = false;
            for (int i = 0; i < parts.size() && !again; i++) {
                List<List<Integer>> keys = keysOf(i);
                if (keys.size() > 8) {
                    int[] many = new int[3];
                    for (P p : parts) {
                        many[p.server]++;
                    }
                    P p = new P();
                    p.first = keys.get(4);
                    p.server = many[0] <= many[1] && many[0] <= many[2] ? 0 : many[1] <= many[2] ? 1 : 2;
                    parts.add(i + 1, p);
                    again = true;
                }
            }
        }
        again = true;
        while (again) {
            again = false;
            for (int i = 0; i + 1 < parts.size() && !again; i++) {
                if (keysOf(i).size() + keysOf(i + 1).size() < 4) {
                    parts.remove(i + 1);
                    again = true;
                }
            }
        }
    }

    boolean isBegun(int transaction) {
        return transaction >= 0 && transaction <= 3 && txs[transaction].begun;
    }

    int someDirectory(int place) {
        return new ArrayList<>(dirs.keySet()).get(place % dirs.size());
    }

    int why() {
        return why;
    }

    void lose(boolean done) {
        lose = done;
    }

    int recover() {
        generation++;
        version += 10;
        return version;
    }

    int pass(int many) {
        argument(1 <= many && many <= 10);
        version += many;
        return version;
    }

    int value(int v, int a, int b, int c) {
        argument(0 <= v && v <= version);
        keyArgument(a, b, c);
        Integer value = in(v).get(key(a, b, c));
        return value == null ? NONE : value;
    }

    int packed(int a, int b, int c, int place) {
        place(place >= 0);
        keyArgument(a, b, c);
        List<Integer> all = bytes(key(a, b, c));
        return place < all.size() ? all.get(place) : NONE;
    }

    int version() {
        return version;
    }

    private void dir(int number) {
        place(dirs.containsKey(number));
    }

    private boolean below(int number, int top) {
        return number == top || number != 0 && below(dirs.get(number).parent, top);
    }

    int directory(int parent, int name) {
        dir(parent);
        argument(0 <= name && name <= 9);
        state(named(parent, name) == NONE && dirs.size() < 10);
        Set<Integer> used = new HashSet<>();
        dirs.values().forEach(d -> used.add(d.shortName));
        Dir d = new Dir();
        d.parent = parent;
        d.name = name;
        while (used.contains(d.shortName)) {
            d.shortName++;
        }
        dirs.put(++lastDir, d);
        return lastDir;
    }

    void move(int directory, int parent, int name) {
        dir(directory);
        dir(parent);
        argument(0 <= name && name <= 9);
        state(directory != 0 && !below(parent, directory));
        state(named(parent, name) == NONE || named(parent, name) == directory);
        dirs.get(directory).parent = parent;
        dirs.get(directory).name = name;
    }

    int remove(int directory) {
        dir(directory);
        state(directory != 0);
        List<Change> wipes = new ArrayList<>();
        List<Integer> gone = new ArrayList<>();
        int before = now.size();
        int cleared = 0;
        for (int number : dirs.keySet()) {
            if (below(number, directory)) {
                gone.add(number);
                List<Integer> prefix = key(dirs.get(number).shortName);
                wipes.add(new Change(1, prefix, true, 0, 0));
                cleared += (int) now.keySet().stream().filter(k -> within(k, prefix)).count();
            }
        }
        if (cleared > 0) {
            commitAll(wipes);
        }
        if (before - now.size() != cleared) {
            throw new AssertionError();
        }
        dirs.keySet().removeAll(gone);
        return cleared;
    }

    int shortName(int directory) {
        dir(directory);
        return dirs.get(directory).shortName;
    }

    int named(int parent, int name) {
        dir(parent);
        argument(0 <= name && name <= 9);
        for (Map.Entry<Integer, Dir> e : dirs.entrySet()) {
            if (e.getKey() != 0 && e.getValue().parent == parent && e.getValue().name == name) {
                return e.getKey();
            }
        }
        return NONE;
    }

    private int record(Tx t, int number, Integer field) {
        room(t);
        boolean[] goes = new boolean[3];
        for (int i = 0; i < 3; i++) {
            int state = read(t, key(-6, i), true);
            goes[i] = state == NONE || state == 1000 || state != -1000 && number <= state;
        }
        int old = read(t, key(-1, number), true);
        if (field == null && old == NONE) {
            return NONE;
        }
        if (goes[0]) {
            if (old != NONE) {
                t.changes.add(new Change(1, key(-2, old, number), false, 0, 0));
            }
            if (field != null) {
                t.changes.add(new Change(0, key(-2, field, number), false, 0, 0));
            }
        }
        if (goes[1]) {
            if (old != NONE) {
                t.changes.add(new Change(2, key(-3, old), false, -1, 0));
            }
            if (field != null) {
                t.changes.add(new Change(2, key(-3, field), false, 1, 0));
            }
        }
        if (goes[2]) {
            if (old != NONE) {
                for (List<Integer> k : seen(t, key(-4))) {
                    if (k.get(2) == number) {
                        t.changes.add(new Change(1, k, false, 0, 0));
                    }
                }
                t.changes.removeIf(c -> c.kind == 6 && c.key.equals(key(-4, 0, number)));
            }
            if (field != null) {
                t.changes.add(new Change(6, key(-4, 0, number), false, field, 1));
            }
        }
        t.changes.add(new Change(field == null ? 1 : 0, key(-1, number), false, field == null ? 0 : field, 0));
        return old;
    }

    int save(int transaction, int number, int field) {
        Tx t = tx(transaction);
        argument(0 <= number && number <= 99 && 0 <= field && field <= 99);
        return record(t, number, field);
    }

    int erase(int transaction, int number) {
        Tx t = tx(transaction);
        argument(0 <= number && number <= 99);
        return record(t, number, null);
    }

    int build(int index, int most) {
        place(0 <= index && index <= 2);
        argument(1 <= most && most <= 20);
        Integer state = now.get(key(-6, index));
        state(state != null && state != 1000);
        List<Change> changes = new ArrayList<>();
        int many = 0, last = 1000;
        boolean rest = false;
        for (Map.Entry<List<Integer>, Integer> e : now.entrySet()) {
            if (e.getKey().get(0) == -1 && e.getKey().get(1) > state) {
                int number = e.getKey().get(1), field = e.getValue();
                if (many == most) {
                    rest = true;
                    break;
                }
                many++;
                last = number;
                changes.add(index == 0 ? new Change(0, key(-2, field, number), false, 0, 0)
                    : index == 1 ? new Change(2, key(-3, field), false, 1, 0)
                    : new Change(6, key(-4, 0, number), false, field, 1));
            }
        }
        changes.add(new Change(0, key(-6, index), false, rest ? last : 1000, 0));
        commitAll(changes);
        return many;
    }

    int off(int index) {
        place(0 <= index && index <= 2);
        int before = now.size();
        boolean had = now.containsKey(key(-6, index));
        commitAll(List.of(new Change(1, key(-2 - index), true, 0, 0), new Change(0, key(-6, index), false, -1000, 0)));
        return before + (had ? 0 : 1) - now.size();
    }

    int rank(int field) {
        argument(0 <= field && field <= 99);
        int sum = 0;
        for (Map.Entry<List<Integer>, Integer> e : now.entrySet()) {
            if (e.getKey().get(0) == -3 && e.getKey().get(1) < field) {
                sum += e.getValue();
            }
        }
        return sum;
    }

    int rankAnew(int field) {
        argument(0 <= field && field <= 99);
        return (int) now.entrySet().stream().filter(e -> e.getKey().get(0) == -1 && e.getValue() < field).count();
    }

    int watch(int a, int b, int c) {
        keyArgument(a, b, c);
        state(watched.size() < 20);
        watched.add(key(a, b, c));
        firedBy.add(NONE);
        return watched.size() - 1;
    }

    int fired(int watch) {
        place(0 <= watch && watch < watched.size());
        return firedBy.get(watch);
    }

    int offer(int transaction, int value) {
        Tx t = tx(transaction);
        argument(0 <= value && value <= 1000000);
        room(t);
        t.changes.add(new Change(6, key(-5, 0), false, value, 1));
        return t.changes.size();
    }

    /** The second number of the first work that a worker has, or, for -1, that nobody has; NONE without. */
    private int work(int worker) {
        for (List<Integer> k : now.keySet()) {
            if (k.get(0) == -5) {
                Integer lease = now.get(key(-7, k.get(1)));
                int holder = lease == null || lease % 10000 <= version ? -1 : lease / 10000;
                if (holder == worker) {
                    return k.get(1);
                }
            }
        }
        return NONE;
    }

    int take(int worker) {
        place(0 <= worker && worker <= 2);
        int work = work(-1);
        if (work == NONE) {
            return NONE;
        }
        commitAll(List.of(new Change(0, key(-7, work), false, 10000 * worker + version + 1 + 10, 0)));
        return now.get(key(-5, work));
    }

    int finish(int worker) {
        place(0 <= worker && worker <= 2);
        int work = work(worker);
        if (work == NONE) {
            return NONE;
        }
        int value = now.get(key(-5, work));
        commitAll(List.of(new Change(1, key(-5, work), false, 0, 0), new Change(1, key(-7, work), false, 0, 0)));
        return value;
    }

    int parts() {
        return parts.size();
    }

    int part(int place, int what) {
        place(0 <= place && place < parts.size());
        argument(0 <= what && what <= 4);
        P p = parts.get(place);
        if (what < 2) {
            return what == 0 ? p.server : keysOf(place).size();
        }
        if (place == 0) {
            return NONE;
        }
        return what - 2 < p.first.size() ? p.first.get(what - 2) : ABSENT;
    }

    int mark() {
        state(marks.size() < 10);
        marks.add(version);
        return marks.size() - 1;
    }

    int bringBack(int mark) {
        place(0 <= mark && mark < marks.size());
        TreeMap<List<Integer>, Integer> then = in(marks.get(mark));
        List<Change> changes = new ArrayList<>();
        TreeMap<List<Integer>, Integer> all = copy(then);
        now.forEach(all::putIfAbsent);
        for (List<Integer> k : all.keySet()) {
            if (!java.util.Objects.equals(then.get(k), now.get(k))) {
                boolean cleared = !then.containsKey(k);
                changes.add(new Change(cleared ? 1 : 0, k, false, cleared ? 0 : then.get(k), 0));
            }
        }
        if (!changes.isEmpty()) {
            commitAll(changes);
        }
        return changes.size();
    }
}
