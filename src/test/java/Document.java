import java.io.IOException;
import java.io.UncheckedIOException;
import java.nio.file.Files;
import java.nio.file.Path;
import java.util.Arrays;
import java.util.LinkedHashMap;
import java.util.Map;

/**
 * The document's own words. Each test of a sentence begins with the words that it holds to: they
 * must stand in the document, they are printed with each answer that is not as due, and at the end
 * no word of the terms and promises may be left without a test.
 */
final class Document {
    private static final Path FILE = Path.of("../shared/DOC.md");
    private static final Map<String, String> SECTIONS = new LinkedHashMap<>();
    private static final Map<String, boolean[]> TOLD = new LinkedHashMap<>();
    private static String current;
    private static int askedBefore;
    private static int tests;

    private Document() {
    }

    /** A test begins: what is asked from here on is asked because of these words. */
    static void says(String section, String words) {
        endTest();
        tests++;
        current = section + " says \"" + words + "\"; ";
        Due.about(current);
        mark(section, words);
        askedBefore = Due.asked();
    }

    /** Words that promise nothing. */
    static void onlyTells(String section, String words) {
        endTest();
        mark(section, words);
    }

    /** That each word of these sections has its test. */
    static void allHasTests() {
        endTest();
        read();
        SECTIONS.forEach(Document::nothingIsLeft);
        System.out.println(tests + " tests of sentences");
    }

    private static void endTest() {
        if (current != null) {
            Due.holds("something was asked", Due.asked() > askedBefore);
        }
        current = null;
        Due.about("");
    }

    private static void mark(String section, String words) {
        read();
        String text = SECTIONS.getOrDefault(section, "");
        int at = text.indexOf(words);
        Due.holds("these words stand there, and once", at >= 0 && text.indexOf(words, at + 1) < 0);
        if (at >= 0) {
            Arrays.fill(TOLD.get(section), at, at + words.length(), true);
        }
    }

    private static void nothingIsLeft(String section, String text) {
        boolean[] told = TOLD.get(section);
        int from = -1;
        for (int at = 0; at <= text.length(); at++) {
            boolean isLeft = at < text.length() && !told[at] && Character.isLetterOrDigit(text.charAt(at));
            if (isLeft && from < 0) {
                from = at;
            } else if (from >= 0 && (at == text.length() || told[at])) {
                Due.holds("a test for " + section + ", \"" + text.substring(from, at).trim() + "\"", false);
                from = -1;
            }
        }
        Due.holds(section + " has words", !text.isEmpty());
    }

    private static void read() {
        if (!SECTIONS.isEmpty()) {
            return;
        }
        try {
            for (String part : Files.readString(FILE).split("(?m)^## ")) {
                String title = part.lines().findFirst().orElse("").replaceAll(":.*", "");
                if (title.equals("What it is") || title.equals("Terms") || title.startsWith("Promise ")) {
                    add(title, part.substring(part.indexOf('\n')));
                }
            }
        } catch (IOException none) {
            throw new UncheckedIOException(none);
        }
        Due.same("sections read", SECTIONS.size(), 30);
    }

    /** In one line, without the marks of code and the head of a call. */
    private static void add(String title, String body) {
        String text = body.replaceAll("(?m)^```.*$", " ").replaceAll("\\s+", " ").trim();
        text = text.replaceAll("^`[^`]*`: ", "");
        SECTIONS.put(title, text);
        TOLD.put(title, new boolean[text.length()]);
    }
}
