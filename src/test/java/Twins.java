import java.util.ArrayList;
import java.util.List;
import java.util.Objects;
import java.util.Random;

/** Two objects made by the same calls: after calls on one of them that change nothing, both answer alike ever after. */
final class Twins {
    private static final int A = Keyterrace.ABSENT;
    private static final int PROBES = 6, RANDOM_CALLS = 150;

    private Twins() {
    }

    /** Makes an object that is in some state. */
    interface Making {
        Keyterrace make();
    }

    /** Calls on an object. */
    interface Calls {
        void on(Keyterrace x);
    }

    private interface Answer {
        Object of();
    }

    static void stayAlike(String what, Making making, Calls changingNothing) {
        for (int probe = 0; probe < PROBES; probe++) {
            Keyterrace one = making.make(), other = making.make();
            changingNothing.on(one);
            List<String> got = tell(one, probe), due = tell(other, probe);
            for (int i = 0; i < due.size(); i++) {
                Check.holds(what + " changes nothing: " + got.get(i) + " behind it, " + due.get(i) + " without it",
                    Objects.equals(got.get(i), due.get(i)));
            }
        }
    }

    private static List<String> tell(Keyterrace x, int probe) {
        List<String> told = new ArrayList<>();
        if (probe == 0) {
            tellAll(x, told);
            tellTransactions(x, told);
        } else if (probe == 1) {
            disturb(x, told);
            tellAll(x, told);
        } else {
            tellAtRandom(x, new Random(probe), told);
        }
        return told;
    }

    private static void tell(List<String> told, String call, Answer answer) {
        String text;
        try {
            text = String.valueOf(answer.of());
        } catch (RuntimeException e) {
            text = e.getClass().getSimpleName();
        }
        told.add(call + " = " + text);
    }

    private static void tellAll(Keyterrace x, List<String> told) {
        tell(told, "version", x::version);
        tell(told, "why", x::why);
        tell(told, "parts", x::parts);
        for (int i = 0; i < x.parts(); i++) {
            for (int what = 0; what <= 4; what++) {
                int place = i, which = what;
                tell(told, "part " + i + " " + what, () -> x.part(place, which));
            }
        }
        for (int i = 0; i <= 20; i++) {
            int watch = i;
            tell(told, "fired " + i, () -> x.fired(watch));
        }
        for (int i = 0; i <= 11; i++) {
            int directory = i;
            tell(told, "shortName " + i, () -> x.shortName(directory));
            for (int name = 0; name <= 9 && i < 4; name++) {
                int which = name;
                tell(told, "named " + i + " " + name, () -> x.named(directory, which));
            }
        }
        tell(told, "rank", () -> x.rank(99));
        tell(told, "rankAnew", () -> x.rankAnew(99));
    }

    /** What each transaction sees, how many changes it keeps, and what becomes of it; then all keys at all. */
    private static void tellTransactions(Keyterrace x, List<String> told) {
        for (int i = 0; i <= 3; i++) {
            int t = i;
            tell(told, "range " + i, () -> x.range(t, A, A, false));
            for (int a = 1; a <= 3; a++) {
                int first = a;
                tell(told, "get " + i + " " + a, () -> x.get(t, first, 1, A, false));
            }
            tell(told, "change " + i, () -> x.change(t, 2, 3, 3, A, 1));
            tell(told, "commit " + i, () -> x.commit(t));
            tell(told, "commit again " + i, () -> x.commit(t));
        }
        x.begin(0, false);
        for (int a = -7; a <= 9; a++) {
            int first = a;
            tell(told, "range of " + a, () -> x.range(0, first, A, false));
            for (int b = 0; b <= 3; b++) {
                int second = b;
                tell(told, "get of " + a + " " + b, () -> x.get(0, first, second, A, false));
            }
        }
    }

    /** Changes all that a transaction can have read, and then commits each. */
    private static void disturb(Keyterrace x, List<String> told) {
        x.begin(2, false);
        for (int a = 0; a <= 9; a++) {
            x.clear(2, a, A);
        }
        tell(told, "commit 2", () -> x.commit(2));
        tell(told, "commit 2 again", () -> x.commit(2));
        for (int i = 0; i <= 2; i++) {
            int which = i;
            tell(told, "off " + i, () -> x.off(which));
            tell(told, "take " + i, () -> x.take(which));
            tell(told, "finish " + i, () -> x.finish(which));
        }
        for (int i = 0; i <= 3; i++) {
            int t = i;
            tell(told, "commit " + i, () -> x.commit(t));
            tell(told, "commit again " + i, () -> x.commit(t));
        }
        for (int i = 0; i <= 9; i++) {
            int mark = i;
            tell(told, "bringBack " + i, () -> x.bringBack(mark));
        }
        tell(told, "mark", x::mark);
        tell(told, "watch", () -> x.watch(1, A, A));
        tell(told, "directory", () -> x.directory(0, 9));
    }

    private static void tellAtRandom(Keyterrace x, Random random, List<String> told) {
        for (int i = 0; i < RANDOM_CALLS; i++) {
            int t = random.nextInt(4), a = 1 + random.nextInt(3), b = 1 + random.nextInt(3), n = random.nextInt(10);
            int kind = random.nextInt(7);
            boolean truth = random.nextBoolean();
            switch (random.nextInt(24)) {
                case 0 -> tell(told, "begin", () -> x.begin(t, truth));
                case 1, 2 -> tell(told, "get", () -> x.get(t, a, b, A, truth));
                case 3, 4 -> tell(told, "range", () -> x.range(t, a, A, truth));
                case 5 -> tell(told, "rangeAt", () -> x.rangeAt(t, A, A, n, b - 1));
                case 6, 7, 8 -> tell(told, "change", () -> x.change(t, kind, a, b, A, n));
                case 9 -> tell(told, "clear", () -> x.clear(t, a, A));
                case 10, 11 -> tell(told, "commit", () -> x.commit(t));
                case 12 -> tell(told, "why", x::why);
                case 13 -> tell(told, "save", () -> x.save(t, n, a));
                case 14 -> tell(told, "erase", () -> x.erase(t, n));
                case 15 -> tell(told, "build", () -> x.build(a - 1, b));
                case 16 -> tell(told, "offer", () -> x.offer(t, n));
                case 17 -> tell(told, "take", () -> x.take(a - 1));
                case 18 -> tell(told, "finish", () -> x.finish(a - 1));
                case 19 -> tell(told, "directory", () -> x.directory(truth ? 0 : a, n));
                case 20 -> tell(told, "fired", () -> x.fired(n));
                case 21 -> tell(told, "part", () -> x.part(a - 1, b));
                case 22 -> tell(told, "bringBack", () -> x.bringBack(n));
                default -> tell(told, "named", () -> x.named(truth ? 0 : a, n));
            }
        }
    }
}
