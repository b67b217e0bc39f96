import java.io.IOException;
import java.nio.file.Files;
import java.nio.file.Path;
import java.util.ArrayList;
import java.util.List;
import java.util.Map;
import java.util.TreeMap;

/** The sentences of the document: whether there are tests that speak of each of them. */
final class Document {
    /** The section of the terms; the others bear the number of their promise. */
    private static final int TERMS = 0;
    /** The document that the tests were written by. */
    private static final int KNOWN = -1005984884;

    private final Map<Integer, String> sections = new TreeMap<>();
    private final boolean isKnown;

    Document() throws IOException {
        String all = Files.readString(Path.of("../shared/DOC.md"));
        isKnown = all.hashCode() == KNOWN;
        for (String part : all.split("(?m)^## ")) {
            String body = part.substring(part.indexOf('\n') + 1).replaceAll("```(text)?", " ").replace("`", "")
                    .replaceAll("\\s+", " ").trim();
            if (part.startsWith("Terms")) {
                sections.put(TERMS, body);
            } else if (part.startsWith("Promise ")) {
                sections.put(Integer.parseInt(part.substring(8, part.indexOf(':'))), body);
            }
        }
    }

    /**
     * Tells which sentences no test speaks of, and which words it does not have. Only for the document that the tests
     * were written by is that a fault: another one may say the same in other words.
     */
    boolean isSpokenOf(List<Due.Words> said) {
        List<String> faults = new ArrayList<>();
        Map<Integer, boolean[]> spoken = new TreeMap<>();
        for (int section : sections.keySet()) {
            spoken.put(section, new boolean[sections.get(section).length()]);
        }
        for (Due.Words words : said) {
            int section = sections.getOrDefault(words.promise(), "").contains(words.text()) ? words.promise() : TERMS;
            int at = sections.getOrDefault(section, "").indexOf(words.text());
            if (at < 0) {
                faults.add("the document does not say \"" + words.text() + "\" of promise " + words.promise());
            }
            // Words may stand in a section more than once: all of these are spoken of.
            for (int from = at; from >= 0; from = sections.get(section).indexOf(words.text(), from + 1)) {
                for (int i = 0; i < words.text().length(); i++) {
                    spoken.get(section)[from + i] = true;
                }
            }
        }
        int sentences = 0;
        for (int section : sections.keySet()) {
            for (int[] sentence : sentences(sections.get(section))) {
                sentences++;
                boolean is = false;
                for (int i = sentence[0]; i < sentence[1]; i++) {
                    is |= spoken.get(section)[i];
                }
                if (!is) {
                    faults.add((section == TERMS ? "the terms" : "promise " + section) + ": no test speaks of \""
                            + sections.get(section).substring(sentence[0], sentence[1]) + "\"");
                }
            }
        }
        faults.forEach(System.out::println);
        System.out.println("tests speak of " + sentences + " sentences" + (isKnown ? "" : " of a document that is new"));
        return faults.isEmpty() || !isKnown;
    }

    /** From where to where each sentence goes: up to a point or a semicolon that is in no bracket. */
    private static List<int[]> sentences(String body) {
        List<int[]> all = new ArrayList<>();
        int from = 0;
        int depth = 0;
        for (int i = 0; i < body.length(); i++) {
            char c = body.charAt(i);
            depth += c == '(' || c == '{' ? 1 : c == ')' || c == '}' ? -1 : 0;
            boolean last = i + 1 == body.length();
            boolean ends = (c == '.' || c == ';') && depth <= 0 && (last || body.charAt(i + 1) == ' ')
                    && (i == 0 || body.charAt(i - 1) != '.');
            if (ends || last) {
                // "I." and the like only count the parts of the terms.
                if (body.substring(from, i + 1).trim().length() > 4 || body.substring(from, i + 1).contains("-")) {
                    all.add(new int[] {from, i + 1});
                }
                from = i + 1;
                depth = 0;
            }
        }
        return all;
    }
}
