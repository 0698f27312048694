import java.io.IOException;
import java.nio.file.Files;
import java.nio.file.Path;
import java.util.ArrayList;
import java.util.HashMap;
import java.util.List;
import java.util.Map;
import java.util.regex.Matcher;
import java.util.regex.Pattern;
import java.util.stream.Stream;

/** Each sentence of Terms and of the promises is said by a test: Check.says(promise, words) has words of it. */
public final class SentencesTest {
    private static final Pattern SAID =
        Pattern.compile("Check\\.says\\((\\d+),\\s*(\"[^\"]*\"(?:\\s*\\+\\s*\"[^\"]*\")*)\\);");

    private static Map<Integer, List<String>> said() throws IOException {
        Map<Integer, List<String>> said = new HashMap<>();
        List<Path> files;
        try (Stream<Path> all = Files.list(Path.of("src/test/java"))) {
            files = all.filter(f -> f.toString().endsWith(".java")).toList();
        }
        for (Path file : files) {
            Matcher matcher = SAID.matcher(Files.readString(file));
            while (matcher.find()) {
                String words = matcher.group(2).replaceAll("\"\\s*\\+\\s*\"", "");
                said.computeIfAbsent(Integer.parseInt(matcher.group(1)), k -> new ArrayList<>())
                    .add(words.substring(1, words.length() - 1));
            }
        }
        return said;
    }

    public static void main(String[] args) throws IOException {
        Map<Integer, List<String>> said = said();
        Check.due("promises", Document.promises(), 35);
        for (int promise = 0; promise <= Document.promises(); promise++) {
            List<String> words = said.getOrDefault(promise, List.of());
            for (String sentence : Document.sentences(promise)) {
                Check.holds("a test for " + promise + ": " + sentence, words.stream().anyMatch(sentence::contains));
            }
        }
        Check.end();
    }
}
