import java.io.IOException;
import java.nio.file.DirectoryStream;
import java.nio.file.Files;
import java.nio.file.Path;
import java.util.Map;
import java.util.TreeMap;
import java.util.regex.Matcher;
import java.util.regex.Pattern;

/**
 * That the tests have the document's words: what Check.terms and Check.promise are given stands in the section that
 * they name, and each sentence of these sections is given to one of them, by a part of it at least.
 */
public final class SentencesTest {
    private static final Path DOCUMENT = Path.of("../shared/DOC.md");
    private static final Path TESTS = Path.of("src/test/java");
    private static final Pattern GIVEN =
            Pattern.compile("Check\\.(terms|promise)\\(\\s*(?:(\\d+),\\s*)?\"((?:[^\"\\\\]|\\\\.)*)\"\\s*\\)");
    private static final Pattern END_OF_SENTENCE = Pattern.compile("\\.\\)?\\s+|\n+");
    /** Headings, and what is said of the interface's text alone. */
    private static final Pattern NO_SENTENCE = Pattern.compile("|#.*|[A-Z][a-z]+, [a-z]+|Ahead of the calls .*");

    private SentencesTest() {
    }

    public static void main(String[] args) throws IOException {
        if (!Files.exists(DOCUMENT)) {
            System.out.println("SentencesTest: there is no " + DOCUMENT + " to look into");
            return;
        }
        Map<String, String> sections = sections(Files.readString(DOCUMENT));
        Map<String, boolean[]> said = new TreeMap<>();
        for (Map.Entry<String, String> section : sections.entrySet()) {
            said.put(section.getKey(), new boolean[section.getValue().length()]);
        }
        try (DirectoryStream<Path> tests = Files.newDirectoryStream(TESTS, "*Test.java")) {
            for (Path test : tests) {
                mark(test, sections, said);
            }
        }
        for (Map.Entry<String, String> section : sections.entrySet()) {
            sentences(section.getKey(), section.getValue(), said.get(section.getKey()));
        }
        Check.due("sections", sections.size(), 27);
        Check.finish("SentencesTest");
    }

    /** The terms and the promises, by their names without what stands behind a colon. */
    private static Map<String, String> sections(String document) {
        Map<String, String> sections = new TreeMap<>();
        for (String section : document.split("(?m)^## ")) {
            String name = section.split("[:\n]", 2)[0];
            if (name.equals("Terms") || name.startsWith("Promise ")) {
                sections.put(name, section.substring(section.indexOf('\n')));
            }
        }
        return sections;
    }

    private static void mark(Path test, Map<String, String> sections, Map<String, boolean[]> said) throws IOException {
        Matcher given = GIVEN.matcher(Files.readString(test));
        while (given.find()) {
            String name = given.group(1).equals("terms") ? "Terms" : "Promise " + given.group(2);
            String words = given.group(3);
            String text = sections.getOrDefault(name, "");
            int at = text.indexOf(words);
            Check.due("whether \"" + words + "\" of " + test.getFileName() + " stands in " + name, at >= 0 ? 1 : 0, 1);
            for (; at >= 0; at = text.indexOf(words, at + 1)) {
                for (int i = at; i < at + words.length(); i++) {
                    said.get(name)[i] = true;
                }
            }
        }
    }

    private static void sentences(String name, String text, boolean[] said) {
        Matcher end = END_OF_SENTENCE.matcher(text);
        int from = 0;
        while (from < text.length()) {
            int to = end.find() ? end.end() : text.length();
            String sentence = text.substring(from, to).strip();
            int letters = 0;
            for (int i = from; i < to; i++) {
                letters += said[i] ? 1 : 0;
            }
            if (!NO_SENTENCE.matcher(sentence).matches()) {
                Check.due("whether a test has \"" + sentence + "\" of " + name, letters > 4 ? 1 : 0, 1);
            }
            from = to;
        }
    }
}
