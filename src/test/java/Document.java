import java.io.IOException;
import java.nio.file.Files;
import java.nio.file.Path;
import java.util.ArrayList;
import java.util.List;

/** The document's words: its sections, and the sentences that Terms and the promises have. */
final class Document {
    private static final String[] SECTIONS = read().split("## Not promised")[0].split("## Promise \\d+: ");

    private Document() {
    }

    private static String read() {
        try {
            return Files.readString(Path.of("../shared/DOC.md"));
        } catch (IOException e) {
            throw new IllegalStateException(e);
        }
    }

    private static String inOneLine(String text) {
        return text.replaceAll("\\s+", " ").trim();
    }

    static int promises() {
        return SECTIONS.length - 1;
    }

    /** All words of a promise; for 0 all that is ahead of promise 1. */
    static String section(int promise) {
        return promise < 0 || promise >= SECTIONS.length ? "" : inOneLine(SECTIONS[promise]);
    }

    /** The sentences of a promise, one for each of its lines; for 0 those of Terms, parted behind . and ; too. */
    static List<String> sentences(int promise) {
        List<String> out = new ArrayList<>();
        if (promise == 0) {
            for (String block : SECTIONS[0].split("## Terms")[1].split("\n\n")) {
                boolean heading = block.trim().matches("[A-Z, ]*");
                out.addAll(heading ? List.of() : List.of(inOneLine(block).split("(?<=[.;]|\\.\\)) ")));
            }
        } else {
            String[] blocks = SECTIONS[promise].trim().split("\n\n|\n(?=- )");
            for (int i = 1; i < blocks.length; i++) {
                out.add(inOneLine(blocks[i]));
            }
        }
        return out;
    }
}
