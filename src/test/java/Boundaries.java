import java.io.IOException;
import java.nio.charset.StandardCharsets;
import java.nio.file.Files;
import java.nio.file.Path;
import java.util.BitSet;
import java.util.LinkedHashMap;
import java.util.Map;
import java.util.regex.Matcher;
import java.util.regex.Pattern;

/**
 * Sentences of the document that name a boundary case, each with runs of its own. A sentence that does not stand in
 * the document, and a place of the document that names a boundary but is in none of these sentences, are wrong.
 */
final class Boundaries {
    /** Words by which the document names a boundary. */
    private static final Pattern MARKS = Pattern.compile("\\d+ to \\d+|at most|at least|\\bnone\\b|\\bNONE\\b|of several"
        + "|\\bwithout\\b|rounded down|\\bbelow\\b|\\babove\\b|fewer\\b|\\btoo\\b|Exception:|at first|false,|goes round"
        + "|nobody|nothing|\\bempty\\b|\\balone\\b|\\bwrong\\b|remembered|the least\\b|the latest|\\bround\\b");

    private final Rows rows = new Rows();
    private final Map<String, String> sections = new LinkedHashMap<>();
    private final Map<String, BitSet> covered = new LinkedHashMap<>();

    Boundaries() throws IOException {
        Path doc = Path.of(System.getProperty("project", "."), "..", "shared", "DOC.md");
        for (String section : Files.readString(doc, StandardCharsets.UTF_8).split("(?m)^## ")) {
            String heading = section.split("[:\n]")[0].strip();
            String said = section.substring(section.indexOf('\n') + 1).replaceAll("\\s+", " ");
            // Some calls bear names that would be boundaries elsewhere: empty, alone.
            sections.put(heading, said.replaceFirst("^ ?`[^`]*`: ", ""));
        }
    }

    /** A sentence of a section, or a part of one, and what must hold at its boundaries: runs, each on a new object. */
    void edge(String heading, String sentence, String... runs) {
        String section = sections.getOrDefault(heading, "");
        int at = section.indexOf(sentence);
        rows.must(at >= 0, heading + " does not say: " + sentence);
        rows.must(runs.length > 0, "no run for: " + sentence);
        if (at >= 0) {
            covered.computeIfAbsent(heading, x -> new BitSet()).set(at, at + sentence.length());
        }
        for (String run : runs) {
            rows.run(heading + ", " + sentence.substring(0, Math.min(50, sentence.length())), run);
        }
    }

    /** Ends the test: all that the sections name must have been told of by a sentence. */
    void close(Pattern headings) {
        for (Map.Entry<String, String> section : sections.entrySet()) {
            if (!headings.matcher(section.getKey()).matches()) {
                continue;
            }
            BitSet told = covered.getOrDefault(section.getKey(), new BitSet());
            rows.must(!told.isEmpty(), section.getKey() + " has no run at all");
            Matcher mark = MARKS.matcher(section.getValue());
            while (mark.find()) {
                String text = section.getValue();
                int behind = Math.min(text.length(), mark.end() + 30);
                rows.must(told.get(mark.start()) && told.get(mark.end() - 1), section.getKey() + " has no run for: .. "
                    + text.substring(Math.max(0, mark.start() - 40), behind) + " ..");
            }
        }
        rows.close();
    }
}
