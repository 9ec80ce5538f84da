import java.io.IOException;
import java.nio.file.Files;
import java.nio.file.Path;
import java.util.Map;
import java.util.TreeMap;

/**
 * The document's sentences, each with a test of its own. What is quoted must stand in the document,
 * and no words of its terms and promises may be left that no test quotes.
 */
final class Sentences {
    static final int TERMS = 0;
    private static final int PROMISES = 31;
    private static final Path DOC = Path.of("../shared/DOC.md");

    /** By promises (TERMS: the terms), what is not quoted yet; what is, is blotted out by '#'. */
    private final Map<Integer, StringBuilder> left = new TreeMap<>();
    private final boolean there = Files.exists(DOC);

    Sentences() throws IOException {
        if (!there) {
            System.out.println("(" + DOC + " is not there: what is quoted is not looked up)");
            return;
        }
        String doc = Files.readString(DOC);
        String terms = doc.substring(doc.indexOf("## Terms"), doc.indexOf("## Promise 1:"));
        left.put(TERMS, words(terms.replaceAll("(?m)^Ahead of the calls .*$", "")));
        for (int promise = 1; promise <= PROMISES; promise++) {
            int from = doc.indexOf("## Promise " + promise + ":");
            int to = doc.indexOf("\n## ", from);
            // the call's own head is the face's, not a sentence
            left.put(promise, words(doc.substring(from, to).replaceAll("`[^`]*\\)`:", "")));
        }
    }

    private static StringBuilder words(String section) {
        String plain = section.replaceAll("(?m)^## .*$", "").replaceAll("(?m)^```.*$", "")
                .replaceAll("======== [0-9]", "").replaceAll("\\s+", " ");
        return new StringBuilder(plain.trim());
    }

    /** A sentence, or a part of one, of a promise (or TERMS), and the test that it holds. */
    void says(int promise, String words, Runnable test) {
        Due.under((promise == TERMS ? "Terms" : "Promise " + promise) + ", \"" + words + "\": ");
        if (there) {
            StringBuilder section = left.get(promise);
            int at = section == null ? -1 : section.indexOf(words);
            Due.holds("the document says so", at >= 0);
            for (int place = Math.max(at, 0); at >= 0 && place < at + words.length(); place++) {
                section.setCharAt(place, '#');
            }
        }
        int before = Due.asked();
        test.run();
        Due.holds("something was asked", Due.asked() > before);
        Due.under("");
    }

    void nothingIsLeft() {
        for (Map.Entry<Integer, StringBuilder> section : left.entrySet()) {
            String rest = section.getValue().toString().replaceAll("[# ]+", " ").trim();
            Due.same("what no test quotes of " + (section.getKey() == TERMS ? "the terms" : "promise " + section.getKey()),
                    rest, "");
        }
    }
}
