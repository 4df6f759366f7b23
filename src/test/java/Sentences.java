import java.io.IOException;
import java.nio.file.Files;
import java.nio.file.Path;
import java.util.LinkedHashMap;
import java.util.Map;

/**
 * Ties tests to the document's sentences: each test quotes the one that it is for, and what
 * no test quotes is found.
 */
final class Sentences {
    private static final Path DOCUMENT = Path.of("../shared/DOC.md");

    /** The document's sections by the beginnings of their headings, as one line each. */
    private final Map<String, String> sections = new LinkedHashMap<>();
    private final Map<String, boolean[]> quoted = new LinkedHashMap<>();
    private int count = 0;

    Sentences() throws IOException {
        for (String part : Files.readString(DOCUMENT).split("(?m)^## ")) {
            String[] headingAndRest = part.split("\n", 2);
            String text = headingAndRest[1].replaceAll("(?m)^```.*$", "")
                    .replaceFirst("(?s)^\\s*`[^`]*`: ", "").replaceAll("\\s+", " ");
            String name = headingAndRest[0].replaceFirst(":.*", "");
            sections.put(name, text);
            quoted.put(name, new boolean[text.length()]);
        }
    }

    /** Runs the test of a sentence, which must look at some answer. */
    void test(String section, String sentence, Runnable test) {
        count++;
        Checks.setAbout(section + ", \"" + sentence + "\": ");
        Checks.due("it stands in the document", true, () -> quote(section, sentence));
        int before = Checks.made();
        Checks.due("its test", "runs", () -> {
            test.run();
            return "runs";
        });
        Checks.due("its test looks at answers", true, () -> Checks.made() > before + 2);
        Checks.setAbout("");
    }

    int count() {
        return count;
    }

    private boolean quote(String section, String sentence) {
        int at = sections.getOrDefault(section, "").indexOf(sentence);
        for (int i = 0; at >= 0 && i < sentence.length(); i++) {
            quoted.get(section)[at + i] = true;
        }
        return at >= 0;
    }

    /** Of the terms and the promises nothing but signs between sentences may be unquoted. */
    void checkAllQuoted() {
        for (Map.Entry<String, String> section : sections.entrySet()) {
            if (section.getKey().equals("Terms") || section.getKey().startsWith("Promise ")) {
                Checks.due(section.getKey() + ", what no test quotes", "", () -> unquoted(section.getKey()));
            }
        }
    }

    private String unquoted(String section) {
        StringBuilder rest = new StringBuilder();
        String text = sections.get(section);
        for (int i = 0; i < text.length(); i++) {
            rest.append(quoted.get(section)[i] ? ' ' : text.charAt(i));
        }
        return rest.toString().replaceAll("\\s+", " ").trim();
    }
}
