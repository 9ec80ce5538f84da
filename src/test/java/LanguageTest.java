import java.nio.file.Files;
import java.nio.file.Path;
import java.util.regex.Matcher;
import java.util.regex.Pattern;

/** What LANGUAGE.md rules out and a reader of the source can see. */
public final class LanguageTest {
    private static final String[] NEVER = {
        "\\bthrow\\b", "\\bthrows\\b", "\\btry\\b", "\\bcatch\\b", "\\bfinally\\b", "\\bsynchronized\\b",
        "\\bassert\\b", "\\bvolatile\\b", "\\btransient\\b", "\\bnative\\b", "\\bprotected\\b", "\\bpackage\\b",
        "\\bvar\\b", "->", "::", "\\bstatic\\s*\\{", "Exact\\b", "\\bObject\\b", "\\bThread\\b", "\\bRandom\\b",
        "\\bSystem\\.(?!arraycopy)", "\\bjava\\.(?!util\\.(Arrays|ArrayList|List|Iterator);)", "@", "\\bMap\\b",
        "\\bSet\\b", "\\bOptional\\b", "\\bhashCode\\b", "\\btoString\\b", "\\bgetClass\\b", "[^\\x00-\\x7f]"};

    public static void main(String[] args) throws Exception {
        String source = Files.readString(Path.of("src/main/java/PearlMother.java"));
        String code = source.replaceAll("(?s)/\\*.*?\\*/", " ").replaceAll("//[^\n]*", " ");
        for (String never : NEVER) {
            Matcher found = Pattern.compile(never).matcher(code);
            Due.holds("no " + never + " in the source", !found.find());
        }
        Due.holds("one public class", code.split("\\bpublic\\s+(final\\s+)?class\\b", -1).length == 2);
        methodsAreShort(source);
        Due.end("LanguageTest");
    }

    /** A member begins at 4 or 8 spaces and ends with a brace at as many. */
    private static void methodsAreShort(String source) {
        String[] lines = source.split("\n");
        for (int first = 0; first < lines.length; first++) {
            Matcher head = Pattern.compile("^( {4}| {8})[a-z].*\\) \\{$").matcher(lines[first]);
            if (!head.matches() || lines[first].matches(" *(if|for|while|switch|do|else)\\b.*")) continue;
            int last = first;
            while (last < lines.length && !lines[last].equals(head.group(1) + "}")) last++;
            Due.holds(lines[first].trim() + " is short", last - first < 60);
        }
    }
}
