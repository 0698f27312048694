import java.io.IOException;
import java.lang.reflect.Constructor;
import java.lang.reflect.Field;
import java.lang.reflect.Method;
import java.lang.reflect.Modifier;
import java.nio.file.Files;
import java.nio.file.Path;
import java.util.Arrays;
import java.util.List;
import java.util.Map;
import java.util.Set;
import java.util.TreeMap;
import java.util.TreeSet;
import java.util.regex.Matcher;
import java.util.regex.Pattern;

/** The rules of LANGUAGE.md that can be seen from the face and from the words of the program. */
public final class LanguageTest {
    private static final String[] FORBIDDEN = {"->", "::", "finally", "synchronized", "assert", "catch", "protected",
        "native", "volatile", "double", "float", "Integer>", "hashCode", "toString", "getMessage", "Exact", "System."};

    private static Map<String, String> face(String text) {
        Map<String, String> face = new TreeMap<>();
        Matcher matcher = Pattern.compile("(?m)^    public (int|void) (\\w+)\\(([^)]*)\\)\\s*(?:throws ([\\w, ]+))?[;{ ]")
            .matcher(text);
        while (matcher.find()) {
            String exceptions = String.valueOf(matcher.group(4)).trim();
            face.put(matcher.group(2), matcher.group(1) + "(" + matcher.group(3) + ") " + exceptions);
        }
        return face;
    }

    private static Set<String> publicNames() {
        Set<String> names = new TreeSet<>();
        for (Method method : Keyterrace.class.getDeclaredMethods()) {
            if (!Modifier.isPrivate(method.getModifiers())) {
                names.add(method.getName());
                Check.holds(method + " is public", Modifier.isPublic(method.getModifiers()));
            }
        }
        return names;
    }

    private static void members(Set<String> publicNames) {
        for (Field field : Keyterrace.class.getDeclaredFields()) {
            boolean constant = Modifier.isStatic(field.getModifiers()) && Modifier.isFinal(field.getModifiers());
            Check.holds(field + " is private or a constant", constant || Modifier.isPrivate(field.getModifiers()));
        }
        for (Constructor<?> constructor : Keyterrace.class.getDeclaredConstructors()) {
            Check.holds("the constructor is public", Modifier.isPublic(constructor.getModifiers()));
        }
        Class<?>[] inside = Keyterrace.class.getDeclaredClasses();
        Check.holds("some twelve classes", inside.length <= 11);
        for (Class<?> one : inside) {
            Check.holds(one + " is private and static",
                Modifier.isPrivate(one.getModifiers()) && Modifier.isStatic(one.getModifiers()));
            for (Method method : one.getDeclaredMethods()) {
                Check.holds(method + " bears no public name", !publicNames.contains(method.getName()));
            }
        }
        for (Method method : Keyterrace.class.getDeclaredMethods()) {
            boolean borne = Modifier.isPrivate(method.getModifiers()) && publicNames.contains(method.getName());
            Check.holds(method + " bears no public name", !borne);
        }
    }

    private static void words(List<String> lines) {
        int since = 0;
        for (int i = 0; i < lines.size(); i++) {
            String line = lines.get(i);
            String code = line.replaceAll("//.*", "").replaceAll("/\\*.*", "").replaceAll("\"[^\"]*\"", "\"\"");
            for (String word : FORBIDDEN) {
                Check.holds("line " + (i + 1) + " has no " + word, !code.contains(word));
            }
            Check.holds("line " + (i + 1) + " is ASCII", line.chars().allMatch(c -> c < 128));
            if (line.matches("    (    )?\\S.*\\{")) {
                since = i;
            }
            if (line.matches("    (    )?\\}")) {
                Check.holds("line " + (i + 1) + " ends a short method or class", i - since <= 60 || line.startsWith("    }"));
            }
        }
        Check.holds("one import", lines.stream().filter(l -> l.startsWith("import"))
            .allMatch("import java.util.ArrayList;"::equals));
    }

    /** The public methods of the program behind one of its headings, up to the next one. */
    private static String group(String program, String heading) {
        int from = program.indexOf("    // ---- " + heading + "\n");
        String rest = from < 0 ? "" : program.substring(from + 4);
        int end = rest.indexOf("// ---- ", 1);
        Matcher matcher = Pattern.compile("(?m)^    public \\w+ (\\w+)\\(").matcher(end < 0 ? rest : rest.substring(0, end));
        StringBuilder names = new StringBuilder();
        while (matcher.find()) {
            names.append(names.isEmpty() ? "" : " ").append(matcher.group(1));
        }
        return names.toString();
    }

    private static void groups(String program) {
        Check.says(0, "the interface says: ---- transactions.");
        Check.holds("its calls", group(program, "transactions").equals("begin get range rangeAt change clear commit why lose "
            + "recover pass value packed version"));
        Check.says(0, "the interface says: ---- directories.");
        Check.holds("its calls", group(program, "directories").equals("directory move remove shortName named"));
        Check.says(0, "the interface says: ---- records.");
        Check.holds("its calls", group(program, "records").equals("save erase build off rank rankAnew"));
        Check.says(0, "the interface says: ---- watches, work, parts, marks.");
        Check.holds("its calls", group(program, "watches, work, parts, marks").equals("watch fired offer take finish parts part "
            + "mark bringBack"));
    }

    public static void main(String[] args) throws IOException {
        String program = Files.readString(Path.of("src/main/java/Keyterrace.java"));
        String document = Files.readString(Path.of("../shared/DOC.md"));
        Map<String, String> due = face(document);
        Check.due("methods of the face", due.size(), 34);
        Check.holds("the face is the document's", due.equals(face(program)));
        Set<String> names = publicNames();
        Check.holds("no other public methods", names.equals(due.keySet()));
        members(names);
        groups(program);
        words(Arrays.asList(program.split("\n")));
        Check.end();
    }
}
