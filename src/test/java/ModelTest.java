import java.lang.reflect.InvocationTargetException;
import java.lang.reflect.Method;
import java.util.ArrayList;
import java.util.Arrays;
import java.util.Comparator;
import java.util.HashMap;
import java.util.List;
import java.util.Map;
import java.util.Random;
import java.util.TreeMap;

/** Runs of random calls, 512 each, on the program and on the model; every answer and exception has to be the same. */
public final class ModelTest {
    private static final int ABSENT = Keyterrace.ABSENT;
    private static final String[] PROFILES = {
        "begin1 get8 range5 rangeAt2 change16 clear3 commit7 why2 lose1 value2 part2 watch1 fired1 mark1 bringBack1 pass1",
        "begin1 change30 clear1 commit4 lose2 why1 value1 part8 parts1 mark1 bringBack2 pass1 watch1 fired2",
        "begin1 save12 erase6 commit8 build5 off1 rank2 rankAnew2 range3 rangeAt3 why2 get1 mark1 bringBack1 part1 lose1",
        "begin1 offer6 commit5 take6 finish5 pass1 range2 rangeAt2 value2 mark1 bringBack1 part1 lose1 why1",
        "directory8 move6 remove2 shortName4 named4 begin1 change9 commit4 range1 get1 parts1 watch1 fired1",
        "begin1 get8 range6 rangeAt1 change10 clear6 commit9 why4",
        "begin1 get8 range6 change6 commit12 lose9 why2 pass1 recover1 version1",
        "begin1 get3 range3 rangeAt3 change8 clear2 commit6 why2 lose2 recover1 pass1 value2 packed1 version1 directory2"
            + " move1 remove1 shortName1 named1 save4 erase2 build2 off1 rank1 rankAnew1 watch1 fired1 offer2 take2"
            + " finish2 parts1 part2 mark1 bringBack1",
    };
    private static final List<String> IN_TRANSACTIONS =
        List.of("get", "range", "rangeAt", "change", "clear", "commit", "save", "erase", "offer");

    private final Random random;
    private final Map<String, Integer> answers;

    private ModelTest(long seed, Map<String, Integer> answers) {
        this.random = new Random(seed);
        this.answers = answers;
    }

    private int one(int... of) {
        return of[random.nextInt(of.length)];
    }

    private int wild() {
        return one(Integer.MIN_VALUE, Integer.MAX_VALUE, -1, 10000, 10001, -1000, -999, 9999, 1000001, -1000001, 0,
            100, 20, 21, 11, 4, 3, random.nextInt());
    }

    private int first() {
        return random.nextInt(8) == 0 ? one(-999, -1, -2, -3, -4, -5, -6, -7, -8, 0, 9999, ABSENT) : one(1, 1, 2, 3, 7);
    }

    private int second() {
        return one(ABSENT, ABSENT, 0, 1, 2, 3, 4, 5, 6, 7, -1, 9);
    }

    private int third(int second) {
        return second == ABSENT && random.nextInt(30) > 0 ? ABSENT : one(ABSENT, ABSENT, ABSENT, 0, 1, -3);
    }

    private void fillKey(Object[] arguments, int from, boolean three) {
        int second = second();
        arguments[from] = first();
        arguments[from + 1] = second;
        if (three) {
            arguments[from + 2] = third(second);
        }
    }

    private static int number(Object answer) {
        return (Integer) answer;
    }

    private Object[] arguments(Method method, Model model) {
        int now = model.version();
        Object[] a = new Object[method.getParameterCount()];
        for (int i = 0; i < a.length; i++) {
            if (method.getParameterTypes()[i] == boolean.class) {
                a[i] = random.nextInt(4) != 0;
            } else {
                a[i] = random.nextInt(3);
            }
        }
        switch (method.getName()) {
            case "get" -> fillKey(a, 1, true);
            case "range" -> fillRange(a, 1);
            case "rangeAt" -> {
                fillRange(a, 1);
                a[4] = random.nextInt(3);
            }
            case "change" -> {
                a[1] = one(0, 0, 0, 1, 2, 2, 3, 4, 5, 6, 6);
                fillKey(a, 2, true);
                a[5] = one(0, 1, 2, -1, 5, 1000000, -1000000);
            }
            case "clear" -> fillRange(a, 1);
            case "pass" -> a[0] = 1 + random.nextInt(10);
            case "value" -> {
                a[0] = random.nextInt(now + 1);
                fillKey(a, 1, true);
            }
            case "packed" -> {
                fillKey(a, 0, true);
                a[3] = random.nextInt(11);
            }
            case "directory", "named" -> {
                a[0] = directory(model);
                a[1] = random.nextInt(5);
            }
            case "move" -> {
                a[0] = directory(model);
                a[1] = directory(model);
                a[2] = random.nextInt(10);
            }
            case "remove", "shortName" -> a[0] = directory(model);
            case "save" -> {
                a[1] = one(0, 1, 2, 3, 5, 8, 50, 99);
                a[2] = one(0, 1, 2, 30, 99);
            }
            case "erase" -> a[1] = one(0, 1, 2, 3, 5, 8, 50, 99);
            case "build" -> a[1] = 1 + random.nextInt(3);
            case "rank", "rankAnew" -> a[0] = one(0, 1, 2, 31, 99);
            case "watch" -> fillKey(a, 0, true);
            case "fired" -> a[0] = random.nextInt(20);
            case "part" -> {
                a[0] = random.nextInt(model.parts());
                a[1] = random.nextInt(5);
            }
            default -> {
            }
        }
        if (a.length > 0 && random.nextInt(40) == 0) {
            int i = random.nextInt(a.length);
            if (a[i] instanceof Integer) {
                a[i] = wild();
            }
        }
        return a;
    }

    private int directory(Model model) {
        return random.nextInt(12) == 0 ? random.nextInt(20) : model.someDirectory(random.nextInt(10));
    }

    private void fillRange(Object[] a, int from) {
        fillKey(a, from, false);
        if (number(a[from]) == ABSENT) {
            a[from + 1] = ABSENT;
        }
    }

    private static Method[] methods() {
        Method[] all = Arrays.stream(Keyterrace.class.getDeclaredMethods())
            .filter(m -> java.lang.reflect.Modifier.isPublic(m.getModifiers())).toArray(Method[]::new);
        Arrays.sort(all, Comparator.comparing(Method::getName));
        return all;
    }

    private static Object call(Method method, Object target, Object[] arguments) throws Exception {
        try {
            return method.invoke(target, arguments);
        } catch (InvocationTargetException e) {
            return e.getCause().getClass().getName();
        }
    }

    private static Method[] weighted(String profile) {
        List<Method> out = new ArrayList<>();
        for (Method method : methods()) {
            for (String word : profile.split(" ")) {
                if (word.replaceAll("[0-9]", "").equals(method.getName())) {
                    for (int i = 0; i < Integer.parseInt(word.replaceAll("[^0-9]", "")); i++) {
                        out.add(method);
                    }
                }
            }
        }
        return out.toArray(new Method[0]);
    }

    private boolean run(String profile) throws Exception {
        Keyterrace program = new Keyterrace();
        Model model = new Model();
        Method[] methods = weighted(profile);
        List<String> calls = new ArrayList<>();
        for (int i = 0; i < 512; i++) {
            Method method = methods[random.nextInt(methods.length)];
            Object[] arguments = arguments(method, model);
            if (IN_TRANSACTIONS.contains(method.getName()) && !model.isBegun((Integer) arguments[0])
                && random.nextInt(10) > 0) {
                method = Keyterrace.class.getDeclaredMethod("begin", int.class, boolean.class);
                arguments = new Object[] {arguments[0], random.nextInt(4) == 0};
            }
            Method other = Model.class.getDeclaredMethod(method.getName(), method.getParameterTypes());
            Object due = call(other, model, arguments);
            Object got = call(method, program, arguments);
            calls.add(method.getName() + Arrays.toString(arguments) + " = " + got);
            count(method.getName(), due);
            if (!java.util.Objects.equals(due, got)) {
                calls.subList(Math.max(0, calls.size() - 60), calls.size()).forEach(System.out::println);
                System.out.println("due is " + due);
                return false;
            }
        }
        return true;
    }

    private void count(String name, Object due) {
        String kind = due instanceof String text ? text.replace("java.lang.", "")
            : due instanceof Integer n && (n < 0 || n == ABSENT) ? due.toString() : "an answer";
        answers.merge(name + " " + kind, 1, Integer::sum);
    }

    public static void main(String[] args) throws Exception {
        int runs = args.length > 0 ? Integer.parseInt(args[0]) : 40;
        Map<String, Integer> answers = new HashMap<>();
        boolean right = true;
        for (int profile = 0; profile < PROFILES.length && right; profile++) {
            for (int i = 0; i < runs && right; i++) {
                right = new ModelTest(1000L * profile + i, answers).run(PROFILES[profile]);
            }
        }
        if (args.length > 1) {
            new TreeMap<>(answers).forEach((kind, many) -> System.out.println(kind + ": " + many));
        }
        Check.holds("the program answers as the model does", right);
        Check.end();
    }
}
