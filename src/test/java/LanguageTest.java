import java.io.IOException;
import java.lang.reflect.Constructor;
import java.lang.reflect.Field;
import java.lang.reflect.Method;
import java.lang.reflect.Modifier;
import java.nio.file.Files;
import java.nio.file.Path;
import java.util.Arrays;
import java.util.List;
import java.util.Map;
import java.util.Set;
import java.util.TreeMap;
import java.util.TreeSet;
import java.util.regex.Matcher;
import java.util.regex.Pattern;

/** The rules of LANGUAGE.md that can be seen from the face and from the words of the program. */
public final class LanguageTest {
    private static final String[] FORBIDDEN = {"->", "::", "finally", "synchronized", "assert", "catch", "protected",
        "native", "volatile", "double", "float", "Integer>", "hashCode", "toString", "getMessage", "Exact", "System."};

    private static Map<String, String> face(String text) {
        Map<String, String> face = new TreeMap<>();
        Matcher matcher = Pattern.compile("(?m)^    public (int|void) (\\w+)\\(([^)]*)\\)\\s*(?:throws ([\\w, ]+))?[;{ ]")
            .matcher(text);
        while (matcher.find()) {
            String exceptions = String.valueOf(matcher.group(4)).trim();
            face.put(matcher.group(2), matcher.group(1) + "(" + matcher.group(3) + ") " + exceptions);
        }
        return face;
    }

    private static Set<String> publicNames() {
        Set<String> names = new TreeSet<>();
        for (Method method : Keyterrace.class.getDeclaredMethods()) {
            if (!Modifier.isPrivate(method.getModifiers())) {
                names.add(method.getName());
                Check.holds(method + " is public", Modifier.isPublic(method.getModifiers()));
            }
        }
        return names;
    }

    private static void members(Set<String> publicNames) {
        for (Field field : Keyterrace.class.getDeclaredFields()) {
            boolean constant = Modifier.isStatic(field.getModifiers()) && Modifier.isFinal(field.getModifiers());
            Check.holds(field + " is private or a constant", constant || Modifier.isPrivate(field.getModifiers()));
        }
        for (Constructor<?> constructor : Keyterrace.class.getDeclaredConstructors()) {
            Check.holds("the constructor is public", Modifier.isPublic(constructor.getModifiers()));
        }
        Class<?>[] inside = Keyterrace.class.getDeclaredClasses();
        Check.holds("some twelve classes", inside.length <= 11);
        for (Class<?> one : inside) {
            Check.holds(one + " is private and static",
                Modifier.isPrivate(one.getModifiers()) && Modifier.isStatic(one.getModifiers()));
            for (Method method : one.getDeclaredMethods()) {
                Check.holds(method + " bears no public name", !publicNames.contains(method.getName()));
            }
        }
        for (Method method : Keyterrace.class.getDeclaredMethods()) {
            boolean borne = Modifier.isPrivate(method.getModifiers()) && publicNames.contains(method.getName());
            Check.holds(method + " bears no public name", !borne);
        }
    }

    private static void words(List<String> lines) {
        int since = 0;
        for (int i = 0; i < lines.size(); i++) {
            String line = lines.get(i);
            String code = line.replaceAll("//.*", "").replaceAll("/\\*.*", "").replaceAll("\"[^\"]*\"", "\"\"");
            for (String word : FORBIDDEN) {
                Check.holds("line " + (i + 1) + " has no " + word, !code.contains(word));
            }
            Check.holds("line " + (i + 1) + " is ASCII", line.chars().allMatch(c -> c < 128));
            if (line.matches("    (    )?\\S.*\\{")) {
                since = i;
            }
            if (line.matches("    (    )?\\}")) {
                Check.holds("line " + (i + 1) + " ends a short method or class", i - since <= 60 || line.startsWith("    }"));
            }
        }
        Check.holds("one import", lines.stream().filter(l -> l.startsWith("import"))
            .allMatch("import java.util.ArrayList;"::equals));
    }

    public static void main(String[] args) throws IOException {
        String program = Files.readString(Path.of("src/main/java/Keyterrace.java"));
        String document = Files.readString(Path.of("../shared/DOC.md"));
        Map<String, String> due = face(document);
        Check.due("methods of the face", due.size(), 34);
        Check.holds("the face is the document's", due.equals(face(program)));
        Set<String> names = publicNames();
        Check.holds("no other public methods", names.equals(due.keySet()));
        members(names);
        words(Arrays.asList(program.split("\n")));
        Check.end();
    }
}
