import java.io.IOException;
import java.nio.file.Files;
import java.nio.file.Path;
import java.nio.file.StandardCopyOption;
import java.util.ArrayList;
import java.util.Arrays;
import java.util.Comparator;
import java.util.List;
import java.util.regex.Matcher;
import java.util.regex.Pattern;
import java.util.stream.Stream;

/** README.md: its example and its commands are run as they are written there, in copies of the project. */
public final class ReadmeTest {
    private static final Path COPIES = Path.of("build/readme");
    private static final String FAILING = "public final class FailingTest {\n"
        + "  public static void main(String[] args) { System.exit(1); }\n}\n";

    private ReadmeTest() {
    }

    /** The fenced blocks of a kind, in their order. */
    private static List<String> blocks(String readme, String kind) {
        Matcher matcher = Pattern.compile("(?ms)^```" + kind + "\n(.*?)^```$").matcher(readme);
        List<String> blocks = new ArrayList<>();
        while (matcher.find()) {
            blocks.add(matcher.group(1));
        }
        return blocks;
    }

    /** The answers that stand behind the calls of the example: up to a colon, if there is one. */
    private static List<String> answers(String example) {
        Matcher matcher = Pattern.compile("(?m)^ *tell\\(.*\\); *// ([^:\n]*)").matcher(example);
        List<String> answers = new ArrayList<>();
        while (matcher.find()) {
            answers.add(matcher.group(1));
        }
        return answers;
    }

    private static void copy(Path from, Path to) throws IOException {
        Path top = from.toRealPath();
        List<Path> all;
        try (Stream<Path> found = Files.walk(top)) {
            all = found.toList();
        }
        for (Path one : all) {
            Path there = to.resolve(top.relativize(one).toString());
            if (Files.isDirectory(one)) {
                Files.createDirectories(there);
            } else {
                Files.copy(one, there, StandardCopyOption.COPY_ATTRIBUTES);
            }
        }
    }

    private static void wipe(Path top) throws IOException {
        if (Files.exists(top)) {
            List<Path> all;
            try (Stream<Path> found = Files.walk(top)) {
                all = found.sorted(Comparator.reverseOrder()).toList();
            }
            for (Path one : all) {
                Files.delete(one);
            }
        }
    }

    /** Runs commands as a shell does in a folder, up to the first one that fails; what they print is in printed. */
    private static int run(Path folder, String commands) throws IOException, InterruptedException {
        Process process = new ProcessBuilder("sh", "-e", "-c", commands).directory(folder.toFile())
            .redirectErrorStream(true).redirectOutput(folder.resolve("printed").toFile()).start();
        return process.waitFor();
    }

    private static List<String> printed(Path folder) throws IOException {
        return Files.readAllLines(folder.resolve("printed"));
    }

    private static void example(String example, String commands) throws IOException, InterruptedException {
        Path folder = COPIES.resolve("use");
        copy(Path.of("src/main"), folder.resolve("src/main"));
        Files.writeString(folder.resolve("Mine.java"), example);
        Check.due("the example is compiled and run", run(folder, commands), 0);
        List<String> got = printed(folder);
        List<String> due = answers(example);
        Check.due("answers of the example", got.size(), due.size());
        Check.holds("there are some, one behind each call", due.size() == example.split("\n *tell\\(").length - 1
            && due.size() > 20);
        for (int i = 0; i < Math.min(got.size(), due.size()); i++) {
            Check.holds("answer " + i + ", " + got.get(i) + ", is " + due.get(i), got.get(i).equals(due.get(i)));
        }
    }

    private static void testCommands(String commands) throws IOException, InterruptedException {
        Path folder = COPIES.resolve("tests/main");
        copy(Path.of("src"), folder.resolve("src"));
        copy(Path.of("../shared"), COPIES.resolve("tests/shared"));
        Check.due("the commands for one test run", run(folder, commands), 0);
        Check.holds("they tell how often calls answered", printed(folder).stream().anyMatch(l -> l.startsWith("bringBack ")));
        Files.writeString(folder.resolve("src/main/java/Keyterrace.java"), Files.readString(
            Path.of("src/main/java/Keyterrace.java")).replace("HIGHEST_RECORD = 99", "HIGHEST_RECORD = 98"));
        Check.holds("they fail where the program does", run(folder, commands) != 0);
    }

    /** A project with a test of its own and one that is shared, and nothing else. */
    private static Path smallProject(String name, boolean ownFails, boolean sharedFails) throws IOException {
        Path folder = COPIES.resolve(name + "/main");
        copy(Path.of("src/main"), folder.resolve("src/main"));
        copy(Path.of(".ci"), folder.resolve(".ci"));
        Path own = Files.createDirectories(folder.resolve("src/test/java"));
        Path shared = Files.createDirectories(COPIES.resolve(name + "/shared/tests"));
        String passing = FAILING.replace("exit(1)", "exit(0)");
        Files.writeString(own.resolve("FailingTest.java"), ownFails ? FAILING : passing);
        Files.writeString(shared.resolve("FailingTest.java"), sharedFails ? FAILING : passing);
        return folder;
    }

    private static void ci(String command) throws IOException, InterruptedException {
        Check.due("all pass", run(smallProject("passing", false, false), command), 0);
        Check.holds("one of its own fails", run(smallProject("own", true, false), command) != 0);
        Check.holds("one that is shared fails", run(smallProject("shared", false, true), command) != 0);
        Path folder = smallProject("broken", false, false);
        Files.writeString(folder.resolve("src/main/java/Keyterrace.java"), "public final class Keyterrace {");
        Check.holds("the program is not compiled", run(folder, command) != 0);
    }

    /** Each test of the project has its row, and each row its test. */
    private static void table(String readme) throws IOException {
        List<String> rows = new ArrayList<>();
        Matcher matcher = Pattern.compile("(?m)^\\| `(\\w+Test)` \\| .+ \\|$").matcher(readme);
        while (matcher.find()) {
            rows.add(matcher.group(1) + ".java");
        }
        String[] files = Path.of("src/test/java").toFile().list((folder, name) -> name.endsWith("Test.java"));
        Check.holds("the table of tests", files != null && rows.stream().sorted().toList().equals(
            Arrays.stream(files).sorted().toList()));
    }

    public static void main(String[] args) throws IOException, InterruptedException {
        wipe(COPIES);
        String readme = Files.readString(Path.of("README.md"));
        List<String> commands = blocks(readme, "sh");
        List<String> examples = blocks(readme, "java");
        Check.due("an example", examples.size(), 1);
        Check.due("commands: for the example, for all tests, for one", commands.size(), 3);
        Check.due("no other blocks", readme.split("(?m)^```").length - 1, 2L * (examples.size() + commands.size()));
        if (examples.size() == 1 && commands.size() == 3) {
            example(examples.get(0), commands.get(0));
            ci(commands.get(1));
            testCommands(commands.get(2));
        }
        table(readme);
        Check.end();
    }
}
