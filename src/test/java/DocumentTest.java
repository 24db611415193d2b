import java.io.IOException;
import java.lang.reflect.Constructor;
import java.lang.reflect.Field;
import java.lang.reflect.Method;
import java.lang.reflect.Modifier;
import java.nio.file.Files;
import java.nio.file.Path;
import java.util.ArrayList;
import java.util.LinkedHashMap;
import java.util.List;
import java.util.Map;
import java.util.Set;
import java.util.TreeSet;
import java.util.regex.Matcher;
import java.util.regex.Pattern;

/**
 * The document held against the class and the tests: the class has the public face that is told
 * there and no other; each sentence that a boundary test is for stands there, in this order, and of
 * 'Terms' and the promises nothing is left out but the words told here.
 */
public final class DocumentTest {
    /** Between the sentences: names of parts, words that join, and what names no boundary case. */
    private static final String[] NO_CASE = {
        "REFUSALS", "==== 1", "==== 2 RULES for a COURSE with JOINTS", "==== 3", "```text", "```", "and",
        "Ahead of the calls .*? the interface says: ---- \\d [a-z ]+\\."
    };
    private static final Check CHECK = new Check();

    public static void main(String[] args) throws IOException {
        if (args.length < 2 || !Files.isReadable(Path.of(args[1]))) {
            System.out.println("there is no document to read");
            return;
        }
        Map<String, String> parts = partsOf(Files.readString(Path.of(args[1])));
        CHECK.holds("the document has 'The public face'", parts.containsKey("The public face"));
        face(parts.getOrDefault("The public face", ""));
        Map<String, List<String>> quoted = quotedByHeading();
        for (Map.Entry<String, List<String>> one : quoted.entrySet()) {
            String part = parts.get(one.getKey());
            CHECK.holds("the document has '" + one.getKey() + "'", part != null);
            if (part != null) {
                holdAgainst(one.getKey(), part, one.getValue());
            }
        }
        for (String heading : parts.keySet()) {
            boolean asked = heading.equals("Terms") || heading.startsWith("Promise ");
            CHECK.holds("'" + heading + "' has tests", !asked || quoted.containsKey(heading));
        }
        CHECK.end();
    }

    private static void face(String part) {
        Set<String> told = new TreeSet<>();
        Matcher calls = Pattern.compile("public ((?:int |long )?\\w+\\([^)]*\\))").matcher(part);
        while (calls.find()) {
            told.add(calls.group(1).replaceAll("int \\w+(?=[,)])", "int"));
        }
        Matcher constants = Pattern.compile("public static final (int|long) ([^;]*);").matcher(part);
        while (constants.find()) {
            for (String one : constants.group(2).split(", ")) {
                told.add(constants.group(1) + " " + one.replace("Long.MIN_VALUE", "" + Long.MIN_VALUE));
            }
        }
        Set<String> found = faceOfTheClass();
        CHECK.holds("the face " + told + " is " + found, told.equals(found));
    }

    private static Set<String> faceOfTheClass() {
        Set<String> found = new TreeSet<>();
        for (Constructor<?> one : BondedWall.class.getConstructors()) {
            found.add(one.getName() + typesOf(one.getParameterTypes()));
        }
        for (Method one : BondedWall.class.getDeclaredMethods()) {
            if (Modifier.isPublic(one.getModifiers())) {
                found.add(one.getReturnType() + " " + one.getName() + typesOf(one.getParameterTypes()));
            }
        }
        for (Field one : BondedWall.class.getFields()) {
            found.add(one.getType() + " " + one.getName() + " = " + valueOf(one));
        }
        return found;
    }

    private static String typesOf(Class<?>[] types) {
        List<String> names = new ArrayList<>();
        for (Class<?> type : types) {
            names.add(type.getName());
        }
        return "(" + String.join(", ", names) + ")";
    }

    private static String valueOf(Field constant) {
        try {
            return String.valueOf(constant.get(null));
        } catch (IllegalAccessException e) {
            return "hidden";
        }
    }

    private static Map<String, List<String>> quotedByHeading() {
        List<Sentences.Sentence> all = new ArrayList<>();
        all.addAll(TermsBoundaryTest.sentences().all());
        all.addAll(RulesBoundaryTest.sentences().all());
        all.addAll(WallBoundaryTest.sentences().all());
        all.addAll(CanBeBoundaryTest.sentences().all());
        all.addAll(LaidBoundaryTest.sentences().all());
        Map<String, List<String>> quoted = new LinkedHashMap<>();
        for (Sentences.Sentence one : all) {
            quoted.computeIfAbsent(one.heading(), heading -> new ArrayList<>()).add(one.words());
        }
        return quoted;
    }

    /** The text under each heading, its lines joined. */
    private static Map<String, String> partsOf(String document) {
        Map<String, String> parts = new LinkedHashMap<>();
        for (String part : document.split("(?m)^## ")) {
            int end = part.indexOf('\n');
            if (end >= 0) {
                parts.put(part.substring(0, end).trim(), part.substring(end).replaceAll("\\s+", " "));
            }
        }
        return parts;
    }

    private static void holdAgainst(String heading, String part, List<String> sentences) {
        boolean whole = !heading.equals("What it is");
        String text = part.replaceFirst("^ *`[^`]*`:", "");
        int from = 0;
        for (String words : sentences) {
            int at = text.indexOf(words, from);
            CHECK.holds("'" + heading + "' says '" + words + "' in this order", at >= 0);
            if (at < 0) {
                return;
            }
            CHECK.holds("no test for '" + text.substring(from, at) + "'", !whole || namesNoCase(text.substring(from, at)));
            from = at + words.length();
        }
        CHECK.holds("no test for '" + text.substring(from) + "'", !whole || namesNoCase(text.substring(from)));
    }

    private static boolean namesNoCase(String words) {
        String left = words;
        for (String one : NO_CASE) {
            left = left.replaceAll(one, " ");
        }
        return left.replaceAll("[\\s.,;:]", "").isEmpty();
    }
}
