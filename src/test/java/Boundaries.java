import java.io.IOException;
import java.nio.charset.StandardCharsets;
import java.nio.file.Files;
import java.nio.file.Path;
import java.util.BitSet;
import java.util.LinkedHashMap;
import java.util.Map;
import java.util.regex.Matcher;
import java.util.regex.Pattern;

/**
 * Sentences of the document, each with runs of its own, those at its boundaries first of all. A sentence that does not
 * stand in the document, and a word of the document that is in none of these sentences, are wrong.
 */
final class Boundaries {
    private static final Pattern WORD = Pattern.compile("[A-Za-z0-9]+");

    private final Rows rows = new Rows();
    private final Map<String, String> sections = new LinkedHashMap<>();
    private final Map<String, BitSet> covered = new LinkedHashMap<>();

    Boundaries() throws IOException {
        Path doc = Path.of(System.getProperty("project", "."), "..", "shared", "DOC.md");
        for (String section : Files.readString(doc, StandardCharsets.UTF_8).split("(?m)^## ")) {
            String heading = section.split("[:\n]")[0].strip();
            // Not said: what the page is set by, and a call's declaration, which LanguageTest holds against the face.
            String said = section.substring(section.indexOf('\n') + 1).replaceAll("```(text)?|==== \\d\\.", "").replaceAll("\\s+", " ");
            sections.put(heading, said.replaceFirst("^ ?`[^`]*`: ", ""));
        }
    }

    /** A sentence of a section, or a part of one, and what must hold at its boundaries: runs, each on a new object. */
    void edge(String heading, String sentence, String... runs) {
        String section = sections.getOrDefault(heading, "");
        int at = section.indexOf(sentence);
        rows.must(at >= 0, heading + " does not say: " + sentence);
        rows.must(runs.length > 0, "no run for: " + sentence);
        if (at >= 0) {
            covered.computeIfAbsent(heading, x -> new BitSet()).set(at, at + sentence.length());
        }
        for (String run : runs) {
            rows.run(heading + ", " + sentence.substring(0, Math.min(50, sentence.length())), run);
        }
    }

    /** Ends the test: all that the sections say must stand in a sentence that was told. */
    void close(Pattern headings) {
        for (Map.Entry<String, String> section : sections.entrySet()) {
            if (!headings.matcher(section.getKey()).matches()) {
                continue;
            }
            BitSet told = covered.getOrDefault(section.getKey(), new BitSet());
            rows.must(!told.isEmpty(), section.getKey() + " has no run at all");
            String text = section.getValue();
            Matcher word = WORD.matcher(text);
            while (word.find()) {
                boolean isTold = told.nextClearBit(word.start()) >= word.end();
                rows.must(isTold, section.getKey() + " has no run for: .. "
                    + text.substring(Math.max(0, word.start() - 40), Math.min(text.length(), word.end() + 30)) + " ..");
            }
        }
        rows.close();
    }
}
