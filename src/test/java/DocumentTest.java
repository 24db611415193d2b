import java.io.IOException;
import java.nio.file.Files;
import java.nio.file.Path;
import java.util.ArrayList;
import java.util.LinkedHashMap;
import java.util.List;
import java.util.Map;

/**
 * The sentences that the boundary tests are for, held against the document: each stands there, in
 * this order, and of 'Terms' and the promises nothing is left out but the words told here.
 */
public final class DocumentTest {
    /** Between the sentences: names of parts, words that join, and what names no boundary case. */
    private static final String[] NO_CASE = {
        "REFUSALS", "==== 1", "==== 2 RULES for a COURSE with JOINTS", "==== 3", "```text", "```", "and",
        "Ahead of the calls .*? the interface says: ---- \\d [a-z ]+\\."
    };
    private static final Check CHECK = new Check();

    public static void main(String[] args) throws IOException {
        if (args.length < 2 || !Files.isReadable(Path.of(args[1]))) {
            System.out.println("there is no document to read");
            return;
        }
        Map<String, String> parts = partsOf(Files.readString(Path.of(args[1])));
        Map<String, List<String>> quoted = quotedByHeading();
        for (Map.Entry<String, List<String>> one : quoted.entrySet()) {
            String part = parts.get(one.getKey());
            CHECK.holds("the document has '" + one.getKey() + "'", part != null);
            if (part != null) {
                holdAgainst(one.getKey(), part, one.getValue());
            }
        }
        for (String heading : parts.keySet()) {
            boolean asked = heading.equals("Terms") || heading.startsWith("Promise ");
            CHECK.holds("'" + heading + "' has tests", !asked || quoted.containsKey(heading));
        }
        CHECK.end();
    }

    private static Map<String, List<String>> quotedByHeading() {
        List<Sentences.Sentence> all = new ArrayList<>();
        all.addAll(TermsBoundaryTest.sentences().all());
        all.addAll(RulesBoundaryTest.sentences().all());
        all.addAll(WallBoundaryTest.sentences().all());
        all.addAll(CanBeBoundaryTest.sentences().all());
        all.addAll(LaidBoundaryTest.sentences().all());
        Map<String, List<String>> quoted = new LinkedHashMap<>();
        for (Sentences.Sentence one : all) {
            quoted.computeIfAbsent(one.heading(), heading -> new ArrayList<>()).add(one.words());
        }
        return quoted;
    }

    /** The text under each heading, its lines joined. */
    private static Map<String, String> partsOf(String document) {
        Map<String, String> parts = new LinkedHashMap<>();
        for (String part : document.split("(?m)^## ")) {
            int end = part.indexOf('\n');
            if (end >= 0) {
                parts.put(part.substring(0, end).trim(), part.substring(end).replaceAll("\\s+", " "));
            }
        }
        return parts;
    }

    private static void holdAgainst(String heading, String part, List<String> sentences) {
        boolean whole = !heading.equals("What it is");
        String text = part.replaceFirst("^ *`[^`]*`:", "");
        int from = 0;
        for (String words : sentences) {
            int at = text.indexOf(words, from);
            CHECK.holds("'" + heading + "' says '" + words + "' in this order", at >= 0);
            if (at < 0) {
                return;
            }
            CHECK.holds("no test for '" + text.substring(from, at) + "'", !whole || namesNoCase(text.substring(from, at)));
            from = at + words.length();
        }
        CHECK.holds("no test for '" + text.substring(from) + "'", !whole || namesNoCase(text.substring(from)));
    }

    private static boolean namesNoCase(String words) {
        String left = words;
        for (String one : NO_CASE) {
            left = left.replaceAll(one, " ");
        }
        return left.replaceAll("[\\s.,;:]", "").isEmpty();
    }
}
