import java.io.IOException;
import java.nio.charset.StandardCharsets;
import java.nio.file.Files;
import java.nio.file.Path;
import java.util.ArrayList;
import java.util.LinkedHashMap;
import java.util.List;
import java.util.Map;
import java.util.regex.Matcher;
import java.util.regex.Pattern;

/** The document's sentences, each with a test of its own where it names a boundary case; none may be left over. */
final class Edges {
    /** What a sentence asks, tried. */
    interface Test {
        void run();
    }

    private static final Path DOCUMENT = Path.of("..", "shared", "DOC.md");

    private final Map<String, String> sections = new LinkedHashMap<>();
    private final Map<String, boolean[]> read = new LinkedHashMap<>();
    private final List<String> names = new ArrayList<>();
    private final List<String> broken = new ArrayList<>();

    Edges() {
        try {
            split(Files.readString(DOCUMENT, StandardCharsets.UTF_8));
        } catch (IOException e) {
            broken.add("the document is not at " + DOCUMENT);
        }
    }

    /** The parts 2 to 6 stand in the section of the terms, behind "==== 2." and so on; the head of it is "Terms". */
    private void split(String document) {
        for (String piece : document.split("(?m)^## ")) {
            int end = piece.indexOf('\n');
            String name = piece.substring(0, Math.max(0, end)).replaceAll(":.*", "");
            String text = plainWords(piece.substring(end + 1));
            if (name.equals("Terms")) {
                Matcher m = Pattern.compile("==== (\\d)\\.").matcher(text);
                int from = 0;
                String part = name;
                while (m.find()) {
                    add(part, text.substring(from, m.start()));
                    part = "Part " + m.group(1);
                    from = m.end();
                }
                add(part, text.substring(from));
            } else if (name.startsWith("Promise")) {
                add(name, text.replaceFirst("^ *`[^`]*`: ", ""));
            } else if (name.equals("What it is")) {
                add(name, text);
            }
        }
    }

    private static String plainWords(String text) {
        return text.replaceAll("(?m)^```.*$", " ").replaceAll("\\s+", " ");
    }

    private void add(String section, String text) {
        sections.put(section, text);
        read.put(section, new boolean[text.length()]);
    }

    /** A sentence that names a boundary case, or a piece of one, word by word as it stands under a promise. */
    void edge(int promise, String words, Test test) {
        edge("Promise " + promise, words, test);
    }

    void edge(String section, String words, Test test) {
        mark(section, words);
        String name = section + ": \"" + words + "\"";
        int wrong = Check.wrong();
        int asked = Check.asked();
        Check.about(name);
        try {
            test.run();
        } catch (RuntimeException | StackOverflowError e) {
            Check.is("nothing is thrown, but " + e, 1, 0);
        }
        Check.is("something is asked", Check.asked() > asked ? 1 : 0, 1);
        Check.about("");
        names.add(name);
        if (Check.wrong() > wrong) {
            broken.add(name);
        }
    }

    /** A sentence that names no boundary case. */
    void plain(int promise, String words) {
        plain("Promise " + promise, words);
    }

    void plain(String section, String words) {
        mark(section, words);
    }

    private void mark(String section, String words) {
        int at = sections.containsKey(section) ? sections.get(section).indexOf(words) : -1;
        if (at < 0) {
            broken.add(section + " of the document has no words \"" + words + "\"");
            return;
        }
        for (int i = at; i < at + words.length(); i++) {
            read.get(section)[i] = true;
        }
    }

    /** What of the document's words stands in no sentence that was told here. */
    private void lookForWordsLeft() {
        for (Map.Entry<String, String> section : sections.entrySet()) {
            boolean[] seen = read.get(section.getKey());
            StringBuilder left = new StringBuilder();
            for (int i = 0; i < seen.length; i++) {
                left.append(seen[i] ? ' ' : section.getValue().charAt(i));
            }
            if (left.toString().matches("(?s).*\\w.*")) {
                broken.add(section.getKey() + " has words without a test: " + left.toString().replaceAll("\\s+", " "));
            }
        }
    }

    /** All sentences with a test of their own. */
    List<String> names() {
        return names;
    }

    List<String> broken() {
        return broken;
    }

    static Edges ofAll() {
        Edges edges = new Edges();
        TextEdges.all(edges);
        PenEdges.all(edges);
        PortraitEdges.all(edges);
        PointEdges.all(edges);
        ParishEdges.all(edges);
        ScoreEdges.all(edges);
        edges.lookForWordsLeft();
        return edges;
    }
}
