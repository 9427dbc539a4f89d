import java.io.IOException;
import java.nio.file.Files;
import java.nio.file.Path;
import java.util.LinkedHashMap;
import java.util.Map;

/**
 * The words of the document that a test is about: they are told with each answer that is not as due, looked
 * up in the document, so that they can be found again there, and crossed out in it: what is left has no test.
 */
final class Sentence {
    private static final Path DOCUMENT = Path.of("..", "shared", "DOC.md");

    // The methods of the face stand in it as code; FaceTest compares them.
    private static final String CODE = "(?s)```.*?```";

    private static Map<String, String> sections;
    private static Map<String, boolean[]> crossedOut;

    private Sentence() {
    }

    /** Begins the test of some words that stand in the section whose title begins as told. */
    static void of(String section, String words) {
        Due.about(section + ", \"" + words + "\"");
        String title = titleOf(section);
        if (title == null) {
            return;
        }
        String text = sections.get(title);
        int at = text.indexOf(words);
        Due.due("the words stand in the document", at >= 0);
        for (int i = Math.max(at, 0); i < at + words.length(); i++) {
            crossedOut.get(title)[i] = true;
        }
    }

    /** Ends all of them: every word of these sections has been the words of a test. */
    static void allOf(String... titles) {
        for (String section : titles) {
            String title = titleOf(section);
            if (title != null) {
                Due.about(title);
                String left = leftOf(sections.get(title), crossedOut.get(title));
                Due.due("no words are left without a test, but: " + left, left.isEmpty());
            }
        }
        Due.about("");
    }

    private static String leftOf(String text, boolean[] out) {
        StringBuilder left = new StringBuilder();
        for (int i = 0; i < out.length; i++) {
            left.append(out[i] ? ' ' : text.charAt(i));
        }
        String words = left.toString().replaceAll("`[^`]*`", " ");
        return words.replaceAll("[^A-Za-z0-9]+", " ").trim();
    }

    /** Null when there is no document here: then the words are told only. */
    private static String titleOf(String section) {
        if (sections == null) {
            read();
        }
        if (sections.isEmpty()) {
            return null;
        }
        for (String title : sections.keySet()) {
            if (title.equals(section) || title.startsWith(section + ":")) {
                return title;
            }
        }
        Due.due("there is a section " + section, false);
        return null;
    }

    private static void read() {
        sections = new LinkedHashMap<>();
        crossedOut = new LinkedHashMap<>();
        if (!Files.isReadable(DOCUMENT)) {
            System.out.println("no document at " + DOCUMENT + ": the words of the tests are not looked up");
            return;
        }
        for (String part : textOfDocument().replaceAll(CODE, "").split("(?m)^## ")) {
            int end = part.indexOf('\n');
            String title = part.substring(0, end).trim();
            String text = part.substring(end).replaceAll("\\s+", " ").trim();
            sections.put(title, text);
            crossedOut.put(title, new boolean[text.length()]);
        }
    }

    private static String textOfDocument() {
        try {
            return Files.readString(DOCUMENT);
        } catch (IOException unreadable) {
            throw new IllegalStateException(unreadable);
        }
    }
}
