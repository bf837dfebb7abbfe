import java.io.IOException;
import java.nio.file.Files;
import java.nio.file.Path;
import java.util.ArrayList;
import java.util.List;
import java.util.regex.Matcher;
import java.util.regex.Pattern;

/** The document's words, promise by promise: which sentences are quoted by a test, and which by none. */
final class Document {
    private final String all;
    private final List<String> sections = new ArrayList<>();

    Document(Path path) throws IOException {
        all = Files.readString(path);
        sections.add(between(all, "## Terms", "## Promise 1:"));
        for (int n = 1; n <= Sentences.PROMISES; n++) {
            String next = n < Sentences.PROMISES ? "## Promise " + (n + 1) + ":" : "## Not promised";
            sections.add(between(all, "## Promise " + n + ":", next).replaceFirst("^`[^`]*`:", ""));
        }
    }

    /** What of a section no quote has, and quotes that the section has not. */
    List<String> complaints(int number, List<String> quotes) {
        String section = sections.get(number);
        List<String> found = new ArrayList<>();
        boolean[] quoted = new boolean[section.length()];
        for (String quote : quotes) {
            int at = section.indexOf(quote);
            // what stands ahead of the promises may be quoted with the Terms
            if (at < 0 && (number != Sentences.TERMS || !all.contains(quote))) {
                found.add("is not in the document: " + quote);
            }
            for (; at >= 0; at = section.indexOf(quote, at + 1)) {
                java.util.Arrays.fill(quoted, at, at + quote.length(), true);
            }
        }
        StringBuilder rest = new StringBuilder();
        for (int i = 0; i < quoted.length; i++) {
            rest.append(quoted[i] ? '|' : section.charAt(i));
        }
        Matcher m = Pattern.compile("[^|]*[A-Za-z0-9][^|]*").matcher(rest.toString().replaceAll("\\b(I|II|III|IV|V)\\. ", ""));
        while (m.find()) {
            found.add("has no test: " + m.group().trim());
        }
        return found;
    }

    private static String between(String all, String head, String next) {
        int from = all.indexOf(head);
        int to = all.indexOf(next);
        if (from < 0 || to < from) {
            return "";
        }
        String lines = all.substring(all.indexOf('\n', from), to);
        return lines.replaceAll("```\\w*", "").replaceAll("\\s+", " ").trim();
    }
}
