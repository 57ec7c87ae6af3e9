import java.io.IOException;
import java.nio.file.Files;
import java.nio.file.Path;
import java.util.Map;
import java.util.TreeMap;

/** The document's parts, and which of their words some boundary test has quoted. */
final class Sentences {
    static final int NOT_PROMISED = -2;
    static final int WHAT_IT_IS = -1;
    static final int TERMS = 0;
    static final int PROMISES = 34;

    private final Map<Integer, String> texts = new TreeMap<>();
    private final Map<Integer, boolean[]> quoted = new TreeMap<>();

    Sentences() throws IOException {
        String doc = Files.readString(Path.of("..", "shared", "DOC.md"));
        for (String part : doc.split("(?m)^## ")) {
            int end = part.indexOf('\n');
            if (end < 0) continue;
            String heading = part.substring(0, end).trim();
            int number = numberOf(heading);
            if (number < NOT_PROMISED) continue;
            String text = part.substring(end + 1).replaceAll("```\\w*", " ");
            // The signature at the head of a promise is FaceTest's matter.
            if (number > 0) text = text.replaceFirst("`[^`]*`:", " ");
            text = plain(text);
            texts.put(number, text);
            quoted.put(number, new boolean[text.length()]);
        }
    }

    private static int numberOf(String heading) {
        if (heading.equals("Not promised")) return NOT_PROMISED;
        if (heading.equals("What it is")) return WHAT_IT_IS;
        if (heading.equals("Terms")) return TERMS;
        return heading.startsWith("Promise ") ? Integer.parseInt(heading.substring(8, heading.indexOf(':'))) : NOT_PROMISED - 1;
    }

    private static String plain(String text) {
        return text.replaceAll("\\s+", " ").trim();
    }

    static String nameOf(int part) {
        if (part == NOT_PROMISED) return "Not promised";
        return part == WHAT_IT_IS ? "What it is" : part == TERMS ? "Terms" : "Promise " + part;
    }

    /** Whether the words stand in a part; they count as quoted then. */
    boolean quote(int part, String words) {
        String text = texts.getOrDefault(part, "");
        String wanted = plain(words);
        boolean found = false;
        for (int at = text.indexOf(wanted); at >= 0; at = text.indexOf(wanted, at + 1)) {
            found = true;
            for (int i = 0; i < wanted.length(); i++) quoted.get(part)[at + i] = true;
        }
        return found && !wanted.isEmpty();
    }

    /** What of a part no test has quoted, letters and digits alone counting. */
    String leftOut(int part) {
        String text = texts.getOrDefault(part, "(there is no such part)");
        boolean[] seen = quoted.getOrDefault(part, new boolean[text.length()]);
        StringBuilder left = new StringBuilder();
        for (int i = 0; i < text.length(); i++) {
            boolean gap = !seen[i] && (Character.isLetterOrDigit(text.charAt(i)) || left.length() > 0 && i > 0 && !seen[i - 1]);
            if (gap) left.append(text.charAt(i));
            else if (left.length() > 0 && left.charAt(left.length() - 1) != '|') left.append('|');
        }
        return left.toString();
    }
}
