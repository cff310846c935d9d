import java.io.IOException;
import java.nio.file.Files;
import java.nio.file.Path;
import java.util.BitSet;
import java.util.LinkedHashMap;
import java.util.LinkedHashSet;
import java.util.Map;
import java.util.Set;

/**
 * The sentences that the runs hold to. Each has to stand in its part of the document, and no number of the
 * document may stand outside all of them: so no bound is left without a test.
 */
final class Sentences {
    private static final Map<String, Set<String>> HELD = new LinkedHashMap<>();

    private Sentences() {
    }

    static void hold(String part, String sentence) {
        HELD.computeIfAbsent(part, p -> new LinkedHashSet<>()).add(sentence);
    }

    static void compare(Path document) throws IOException {
        if (!Files.isReadable(document)) {
            System.out.println("no document at " + document + ": the sentences are not looked up");
            return;
        }
        Map<String, String> parts = parts(Files.readString(document));
        for (String part : HELD.keySet()) {
            Check.due("the document has " + part, parts.containsKey(part));
        }
        for (Map.Entry<String, String> part : parts.entrySet()) {
            comparePart(part.getKey(), part.getValue(), HELD.getOrDefault(part.getKey(), Set.of()));
        }
    }

    private static void comparePart(String part, String text, Set<String> sentences) {
        BitSet held = new BitSet();
        for (String sentence : sentences) {
            int at = text.indexOf(sentence);
            Check.due(part + " says: " + sentence, at >= 0);
            for (; at >= 0; at = text.indexOf(sentence, at + 1)) {
                held.set(at, at + sentence.length());
            }
        }
        StringBuilder rest = new StringBuilder();
        for (int i = 0; i < text.length(); i++) {
            rest.append(held.get(i) ? '_' : text.charAt(i));
        }
        String open = rest.toString().replaceAll("_+", "_");
        Check.due(part + " has a test for each number; none has: " + open, !open.matches(".*[0-9].*"));
    }

    private static Map<String, String> parts(String document) {
        String text = document.replaceAll("```[a-z]*", " ").replaceAll("\\s+", " ");
        Map<String, String> parts = new LinkedHashMap<>();
        parts.put("What it is", between(text, "## What it is", "## The public face"));
        parts.put("Public face", between(text, "public static final int", "public WaterCruise();"));
        for (int i = 1; i <= 5; i++) {
            String end = i < 5 ? "==== " + (i + 1) + " " : " SHEETS 0 .. 3 are";
            parts.put("Terms " + i, between(text, "==== " + i + " ", end));
        }
        parts.put("Terms SHEETS", "SHEETS 0 .. 3 are" + between(text, " SHEETS 0 .. 3 are", "STATUS of the latest"));
        parts.put("Terms STATUS", "STATUS of the latest" + between(text, "STATUS of the latest", "## Promise 1:"));
        for (int i = 1; i <= 35; i++) {
            String whole = between(text, "## Promise " + i + ":", i < 35 ? "## Promise " + (i + 1) + ":" : "## Not promised");
            parts.put("Promise " + i, whole.substring(whole.indexOf("`:") + 2));
        }
        return parts;
    }

    private static String between(String text, String from, String to) {
        int begin = text.indexOf(from);
        int end = text.indexOf(to, begin + from.length());
        if (begin < 0 || end < 0) {
            throw new IllegalStateException("the document has no " + (begin < 0 ? from : to));
        }
        return text.substring(begin + from.length(), end);
    }
}
