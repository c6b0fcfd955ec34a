import java.io.IOException;
import java.nio.charset.StandardCharsets;
import java.nio.file.Files;
import java.nio.file.Path;
import java.util.LinkedHashMap;
import java.util.Map;

/**
 * Tests by the document's own sentences: each quotes the words that it holds the class to. Words that
 * the document does not have where they are quoted are a fault, and so is a word that no test quotes.
 */
final class Sentences {
    private static final Path DOCUMENT = Path.of("../shared/DOC.md");
    private final Map<String, String> sections = new LinkedHashMap<>();
    private String section = "";
    private String text = "";
    private boolean[] quoted = new boolean[0];

    Sentences() {
        try {
            cut(Files.readString(DOCUMENT, StandardCharsets.UTF_8));
        } catch (IOException e) {
            Calls.due("the document is there: " + e, false, true);
        }
    }

    private void cut(String document) {
        String name = "";
        StringBuilder lines = new StringBuilder();
        for (String line : document.split("\n")) {
            String next = nameOf(line);
            if (!next.isEmpty()) {
                sections.put(name, plain(lines.toString()));
                lines.setLength(0);
                name = next;
            }
            lines.append(line).append(' ');
        }
        sections.put(name, plain(lines.toString()));
    }

    /** Which section a line begins; "" if none. */
    private static String nameOf(String line) {
        if (line.startsWith("## Promise ")) return line.substring(3, line.indexOf(':'));
        if (line.startsWith("## ")) return line.substring(3);
        if (line.matches("I+\\. .*")) return "Terms " + line.substring(0, line.indexOf('.'));
        if (line.startsWith("Ahead of the calls ")) return "The calls of " + line.substring(line.indexOf('`'));
        return line.startsWith("The constants: ") ? "The constants" : "";
    }

    private static String plain(String lines) {
        String bare = lines.replaceAll("```\\w*", " ").replaceAll("\\s+", " ").trim();
        return bare.replaceFirst("^## Promise [^`]*`[^`]*`: ", "").replaceFirst("^I+\\. ", "").replaceFirst("^## What it is ", "");
    }

    /** Begins a section, every word of which must have been quoted when it ends. */
    void section(String name) {
        endSection();
        section = name;
        text = sections.getOrDefault(name, "");
        quoted = new boolean[text.length()];
        Calls.due("the document has the section " + name, text.isEmpty(), false);
    }

    void says(String words, Runnable test) {
        Calls.about = section + ", '" + words + "': ";
        int at = unquotedPlace(words);
        Calls.due("the document says so", at >= 0, true);
        for (int i = 0; i < words.length() && at >= 0; i++) quoted[at + i] = true;
        int asked = Calls.asked();
        test.run();
        Calls.due("something is asked", Calls.asked() > asked, true);
        Calls.about = "";
    }

    // The same words may stand twice in a section: then the second test that quotes them has the second place.
    private int unquotedPlace(String words) {
        int at = text.indexOf(words);
        while (at >= 0 && quoted[at]) at = text.indexOf(words, at + 1);
        return at;
    }

    private void endSection() {
        StringBuilder left = new StringBuilder();
        for (int i = 0; i < text.length(); i++) left.append(quoted[i] ? ' ' : text.charAt(i));
        String words = left.toString().replaceAll("\\s+", " ").trim();
        Calls.due(section + ": words that no test quotes <" + words + ">", words.matches(".*[A-Za-z0-9].*"), false);
    }

    void close(String name) {
        endSection();
        Calls.close(name);
    }
}
