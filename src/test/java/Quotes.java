import java.io.IOException;
import java.io.UncheckedIOException;
import java.nio.file.Files;
import java.nio.file.Path;
import java.util.ArrayList;
import java.util.List;
import java.util.Map;
import java.util.TreeMap;

/** The document's own words, part by part, and which of them a test has quoted: none may be left without a test. */
final class Quotes {
    private static final int TERMS = 0;

    /** By the promise's number; the terms, with the constants, are 0. */
    private final Map<Integer, String> parts = new TreeMap<>();
    private final Map<Integer, boolean[]> quoted = new TreeMap<>();

    Quotes(Path document) {
        String text;
        try {
            text = Files.readString(document);
        } catch (IOException e) {
            throw new UncheckedIOException(e);
        }
        for (String part : text.split("\n## ")) {
            String heading = part.substring(0, part.indexOf('\n'));
            String body = part.substring(part.indexOf('\n'));
            if (heading.equals("Terms")) {
                keep(TERMS, body.replaceAll("```(text)?|==== \\d\\.", " "));
            } else if (heading.startsWith("Promise ")) {
                int number = Integer.parseInt(heading.replaceAll("Promise (\\d+):.*", "$1"));
                keep(number, body.substring(body.indexOf("`: ") + 3));
            }
        }
    }

    private void keep(int part, String words) {
        String plain = plain(words);
        parts.put(part, plain);
        quoted.put(part, new boolean[plain.length()]);
    }

    private static String plain(String words) {
        return words.replaceAll("\\s+", " ").trim();
    }

    /** Whether these words stand in the promise, or else in the terms. */
    boolean quote(int promise, String words) {
        return mark(promise, words) | mark(TERMS, words);
    }

    private boolean mark(int part, String words) {
        String all = parts.getOrDefault(part, "");
        String sought = plain(words);
        int at = all.indexOf(sought);
        for (int i = 0; at >= 0 && i < sought.length(); i++) {
            quoted.get(part)[at + i] = true;
        }
        return at >= 0;
    }

    /** All stretches that no test has quoted and that have a letter or a digit. */
    List<String> left() {
        List<String> found = new ArrayList<>();
        for (int part : parts.keySet()) {
            String all = parts.get(part);
            StringBuilder row = new StringBuilder();
            for (int i = 0; i <= all.length(); i++) {
                if (i < all.length() && !quoted.get(part)[i]) {
                    row.append(all.charAt(i));
                } else {
                    if (row.toString().matches(".*[A-Za-z0-9].*")) {
                        found.add((part == TERMS ? "terms" : "promise " + part) + ": " + row);
                    }
                    row.setLength(0);
                }
            }
        }
        return found;
    }

    int promises() {
        return parts.size() - 1;
    }
}
