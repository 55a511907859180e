import java.io.IOException;
import java.nio.file.Files;
import java.nio.file.Path;
import java.util.BitSet;
import java.util.LinkedHashMap;
import java.util.Map;

/** The document's own words, and which of them the tests have quoted so far. */
final class Doc {
    private static final Path FILE = Path.of("..", "shared", "DOC.md");
    private static final Map<String, String> TEXTS = new LinkedHashMap<>();
    private static final Map<String, BitSet> QUOTED = new LinkedHashMap<>();

    static {
        read();
    }

    private Doc() {
    }

    private static void read() {
        if (!Files.isReadable(FILE)) {
            System.out.println("no " + FILE + " here: the quotes are not compared to it");
            return;
        }
        String whole;
        try {
            whole = Files.readString(FILE);
        } catch (IOException e) {
            throw new AssertionError(e);
        }
        for (String part : whole.split("(?m)^## ")) {
            int end = part.indexOf('\n');
            String heading = part.substring(0, end).strip();
            TEXTS.put(heading, plain(part.substring(end)));
            QUOTED.put(heading, new BitSet());
        }
    }

    /** One line, without the marks of a code block and without the signature that a promise begins with. */
    private static String plain(String text) {
        String line = text.replace("```text", " ").replace("```", " ").replaceAll("\\s+", " ").strip();
        return line.replaceFirst("^`[^`]*`: ", "");
    }

    /** Whether a sentence stands under a heading, told by how this begins: "Promise 3", or "Promise 3 (Terms)". */
    static boolean quote(String where, String sentence) {
        if (TEXTS.isEmpty()) {
            return true;
        }
        int open = where.indexOf('(');
        String begin = open >= 0 ? where.substring(open + 1, where.length() - 1) : where + ":";
        for (Map.Entry<String, String> entry : TEXTS.entrySet()) {
            int at = entry.getValue().indexOf(sentence);
            if (entry.getKey().startsWith(begin) && at >= 0) {
                QUOTED.get(entry.getKey()).set(at, at + sentence.length());
                return true;
            }
        }
        return false;
    }

    /** The words of the terms and promises that no test has quoted. */
    static String unquoted() {
        StringBuilder left = new StringBuilder();
        for (Map.Entry<String, String> entry : TEXTS.entrySet()) {
            String heading = entry.getKey();
            if (heading.startsWith("Terms") || heading.startsWith("Promise ")) {
                String text = rest(entry.getValue(), QUOTED.get(heading));
                if (!text.isEmpty()) {
                    left.append(heading).append(": ").append(text).append('\n');
                }
            }
        }
        return left.toString();
    }

    private static String rest(String text, BitSet quoted) {
        StringBuilder left = new StringBuilder();
        for (int k = 0; k < text.length(); k++) {
            left.append(quoted.get(k) ? ' ' : text.charAt(k));
        }
        String words = left.toString().replaceAll("\\s+", " ").strip();
        return words.matches("[^A-Za-z0-9]*") ? "" : words;
    }
}
