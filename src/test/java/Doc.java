import java.io.IOException;
import java.io.UncheckedIOException;
import java.nio.charset.StandardCharsets;
import java.nio.file.Files;
import java.nio.file.Path;
import java.util.LinkedHashMap;
import java.util.Map;

/**
 * The document's own words, quoted ahead of the answers that hold them. A quote that the document does not have, or has
 * twice in one part, is a fault of the test; so is a word of the terms or of a promise that nothing quotes.
 */
final class Doc {
    private static final Path FILE = Path.of("../shared/DOC.md");
    private static final Map<String, String> PARTS = read();
    private static final Map<String, boolean[]> QUOTED = new LinkedHashMap<>();

    private Doc() { }

    private static Map<String, String> read() {
        if (!Files.exists(FILE)) {
            System.out.println("no " + FILE + ": quotes are not looked up");
            return Map.of();
        }
        String text;
        try {
            text = Files.readString(FILE, StandardCharsets.UTF_8);
        } catch (IOException e) {
            throw new UncheckedIOException(e);
        }
        Map<String, String> parts = new LinkedHashMap<>();
        for (String part : text.split("(?m)^## ")) {
            int line = part.indexOf('\n');
            String title = part.substring(0, line).replaceAll(":.*", "");
            String body = part.substring(line).replaceAll("```(text|java)?", " ").replaceAll("==== \\d\\.", " ");
            if (title.startsWith("Promise ")) {
                body = body.replaceFirst("`[^`]*`:", " ");
            }
            parts.put(title, body.replaceAll("\\s+", " ").trim());
        }
        return parts;
    }

    /** Words of a promise's own part. */
    static void promise(int number, String words) {
        quote("Promise " + number, words);
        Due.under("promise " + number + ", '" + words + "'");
    }

    /** Words of the terms, that the promise of this number hangs on. */
    static void terms(int number, String words) {
        quote("Terms", words);
        Due.under("terms of promise " + number + ", '" + words + "'");
    }

    static void ahead(String words) {
        quote("What it is", words);
        Due.under("'" + words + "'");
    }

    private static void quote(String title, String words) {
        if (PARTS.isEmpty()) {
            return;
        }
        String part = PARTS.getOrDefault(title, "");
        boolean[] quoted = QUOTED.computeIfAbsent(title, t -> new boolean[part.length()]);
        int at = part.indexOf(words);
        Due.under(title);
        Due.is("the document has '" + words + "' there once", at >= 0 && part.indexOf(words, at + 1) < 0, true);
        for (int i = at; at >= 0 && i < at + words.length(); i++) {
            quoted[i] = true;
        }
    }

    /** Each word of the terms and of each promise is quoted. */
    static void allQuoted() {
        if (PARTS.isEmpty()) {
            return;
        }
        int promises = 0;
        for (Map.Entry<String, String> part : PARTS.entrySet()) {
            String title = part.getKey();
            promises += title.startsWith("Promise ") ? 1 : 0;
            if (title.startsWith("Promise ") || title.equals("Terms")) {
                boolean[] quoted = QUOTED.getOrDefault(title, new boolean[part.getValue().length()]);
                Due.under(title);
                Due.is("words that no test quotes: " + unquoted(part.getValue(), quoted), unquoted(part.getValue(), quoted).isEmpty(), true);
            }
        }
        Due.under("");
        Due.is("promises", promises, 39);
    }

    private static String unquoted(String text, boolean[] quoted) {
        StringBuilder found = new StringBuilder();
        for (int i = 0; i < text.length(); i++) {
            if (!quoted[i] && Character.isLetterOrDigit(text.charAt(i))) {
                found.append(text.charAt(i));
            } else if (found.length() > 0 && found.charAt(found.length() - 1) != ' ') {
                found.append(' ');
            }
        }
        return found.toString().trim();
    }
}
