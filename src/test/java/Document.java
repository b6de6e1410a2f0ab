import java.nio.file.Files;
import java.nio.file.Path;
import java.util.ArrayList;
import java.util.Arrays;
import java.util.LinkedHashMap;
import java.util.List;
import java.util.Map;

/** The sentences of ../shared/DOC.md, part by part, and which of them a test has quoted. */
final class Document {
    private final Map<String, String> parts = new LinkedHashMap<>();
    private final Map<String, boolean[]> quoted = new LinkedHashMap<>();

    Document() {
        StringBuilder part = new StringBuilder();
        String heading = "";
        for (String line : lines()) {
            if (line.startsWith("#")) {
                keep(heading, part.toString());
                heading = line.replace("#", "").trim();
                part.setLength(0);
            } else {
                part.append(line).append('\n');
            }
        }
        keep(heading, part.toString());
    }

    private static List<String> lines() {
        try {
            return Files.readAllLines(Path.of("../shared/DOC.md"));
        } catch (java.io.IOException e) {
            throw new java.io.UncheckedIOException(e);
        }
    }

    private void keep(String heading, String text) {
        String name = heading.startsWith("Promise ") ? heading.substring(0, heading.indexOf(':')) : heading;
        parts.put(name, text);
        quoted.put(name, new boolean[text.length()]);
    }

    /** Marks a sentence, or a part of one, as quoted; false if the document does not say it there. */
    boolean quote(String part, String sentence) {
        String text = parts.get(part);
        if (text == null || sentence.isEmpty()) {
            return false;
        }
        int at = text.indexOf(sentence);
        boolean isThere = at >= 0;
        while (at >= 0) {
            Arrays.fill(quoted.get(part), at, at + sentence.length(), true);
            at = text.indexOf(sentence, at + 1);
        }
        return isThere;
    }

    /** What no test has quoted; what FaceTest looks at, the signatures, is left out. */
    List<String> unquoted() {
        List<String> rest = new ArrayList<>();
        for (Map.Entry<String, String> part : parts.entrySet()) {
            if (isPartWithPromises(part.getKey())) {
                addUnquoted(part.getKey(), part.getValue(), rest);
            }
        }
        return rest;
    }

    private static boolean isPartWithPromises(String part) {
        return !part.equals("The public face") && !part.equals("Not promised");
    }

    private void addUnquoted(String part, String text, List<String> rest) {
        int begin = 0;
        for (String line : text.split("\n", -1)) {
            int from = line.startsWith("`") && part.startsWith("Promise") ? line.indexOf("`: ") + 3 : 0;
            StringBuilder left = new StringBuilder();
            for (int at = from; at < line.length(); at++) {
                if (!quoted.get(part)[begin + at]) {
                    left.append(line.charAt(at));
                }
            }
            boolean isTitle = line.equals("Days, zones, lines") || line.equals("Bids, blocks");
            if (!isTitle && left.toString().chars().anyMatch(Character::isLetterOrDigit)) {
                rest.add(part + ": " + left);
            }
            begin += line.length() + 1;
        }
    }
}
