import java.io.IOException;
import java.nio.charset.StandardCharsets;
import java.nio.file.Files;
import java.nio.file.Path;
import java.util.ArrayList;
import java.util.BitSet;
import java.util.LinkedHashMap;
import java.util.List;
import java.util.Map;
import java.util.regex.Matcher;
import java.util.regex.Pattern;
import java.util.stream.Stream;

/**
 * Each sentence of the document has a test of its own: the cases of src/test/sentences, each under the
 * words that it tests. No word of the Terms and of the promises may stand there without a case.
 */
public final class SentencesTest {
    private static final Path DOCUMENT = Path.of("../shared/DOC.md");
    private static final Path CASES = Path.of("src/test/sentences");

    private final Check check = new Check();
    private final Map<String, String> sections = new LinkedHashMap<>();
    private final Map<String, BitSet> tested = new LinkedHashMap<>();
    private int cases = 0;

    public static void main(String[] args) throws IOException {
        SentencesTest test = new SentencesTest();
        test.readDocument(Files.readString(DOCUMENT, StandardCharsets.UTF_8));
        List<Path> files;
        try (Stream<Path> found = Files.list(CASES)) {
            files = found.filter(file -> file.toString().endsWith(".txt")).sorted().toList();
        }
        for (Path file : files) {
            test.runFile(file);
        }
        test.everyWordIsTested();
        test.check.finish("SentencesTest, " + test.cases + " cases");
    }

    private static String plain(String words) {
        return words.replaceAll("\\s+", " ").strip();
    }

    /** Sections by their headings; a promise without the call's face, which FaceTest looks at. */
    private void readDocument(String document) {
        Matcher section = Pattern.compile("(?m)^## (.*)\n((?s:.*?))(?=^## |\\z)").matcher(document);
        while (section.find()) {
            String text = section.group(2).replaceAll("(?m)^```.*$", "").replaceAll("(?m)^\\d\\. ", "");
            text = text.replaceAll("(?m)^Ahead of the calls .*$", "").replaceFirst("^\\s*`[^`]*`: ", "");
            sections.put(section.group(1), plain(text));
            tested.put(section.group(1), new BitSet());
        }
        check.part("document");
        check.due("promises", sections.keySet().stream().filter(name -> name.startsWith("Promise")).count(), 52);
    }

    private void runFile(Path file) throws IOException {
        String heading = "";
        StringBuilder words = new StringBuilder();
        List<String> lines = new ArrayList<>();
        for (String line : (Files.readString(file, StandardCharsets.UTF_8) + "\n>").split("\n")) {
            boolean begins = line.startsWith(">") || line.startsWith("##");
            if (begins && !lines.isEmpty()) {
                runCase(heading, plain(words.toString()), lines);
                words.setLength(0);
                lines.clear();
            }
            if (line.startsWith("##")) {
                heading = plain(line.substring(2));
            } else if (line.startsWith(">")) {
                words.append(' ').append(line.substring(1));
            } else if (!line.isBlank() && !line.startsWith("//")) {
                lines.add(line.strip());
            }
        }
    }

    private void runCase(String heading, String words, List<String> lines) {
        cases++;
        check.part(heading + " \"" + words + "\"");
        markTested(heading, words);
        Script script = new Script(check);
        for (String line : lines) {
            try {
                script.line(line);
            } catch (RuntimeException e) {
                check.holds(line + ": " + e + (e.getCause() == null ? "" : ", " + e.getCause()), false);
            }
        }
        check.holds("something is compared", script.due() > 0);
    }

    private void markTested(String heading, String words) {
        String text = sections.getOrDefault(heading, "");
        int at = text.indexOf(words);
        check.holds("these words stand in the document", at >= 0 && !words.isEmpty());
        for (; at >= 0 && !words.isEmpty(); at = text.indexOf(words, at + 1)) {
            tested.get(heading).set(at, at + words.length());
        }
    }

    private void everyWordIsTested() {
        check.part("document");
        for (String heading : sections.keySet()) {
            if (!heading.equals("Terms") && !heading.startsWith("Promise")) {
                continue;
            }
            String text = sections.get(heading);
            StringBuilder left = new StringBuilder();
            for (int p = 0; p < text.length(); p++) {
                left.append(tested.get(heading).get(p) ? ' ' : text.charAt(p));
            }
            String words = plain(left.toString());
            check.holds(heading + ", without a case: " + words, !words.matches(".*\\w.*"));
        }
    }
}
