import java.nio.file.Files;
import java.nio.file.Path;
import java.util.HashSet;
import java.util.Map;
import java.util.Set;
import java.util.TreeMap;
import java.util.regex.Matcher;
import java.util.regex.Pattern;

/** What LANGUAGE.md rules out and a reader of the source can see. */
public final class LanguageTest {
    private static final String[] NEVER = {
        "\\bthrow\\b", "\\bthrows\\b", "\\btry\\b", "\\bcatch\\b", "\\bfinally\\b", "\\bsynchronized\\b",
        "\\bassert\\b", "\\bvolatile\\b", "\\btransient\\b", "\\bnative\\b", "\\bprotected\\b", "\\bpackage\\b",
        "\\bvar\\b", "->", "::", "\\bstatic\\s*\\{", "Exact\\b", "\\bObject\\b", "\\bThread\\b", "\\bRandom\\b",
        "\\bSystem\\.(?!arraycopy)", "\\bjava\\.(?!util\\.(Arrays|ArrayList|List|Iterator);)", "@", "\\bMap\\b",
        "\\bSet\\b", "\\bOptional\\b", "\\bhashCode\\b", "\\btoString\\b", "\\bgetClass\\b", "[^\\x00-\\x7f]"};

    public static void main(String[] args) throws Exception {
        String source = Files.readString(Path.of("src/main/java/PearlMother.java"));
        String code = source.replaceAll("(?s)/\\*.*?\\*/", " ").replaceAll("//[^\n]*", " ");
        for (String never : NEVER) {
            Matcher found = Pattern.compile(never).matcher(code);
            Due.holds("no " + never + " in the source", !found.find());
        }
        Due.holds("one public class", code.split("\\bpublic\\s+(final\\s+)?class\\b", -1).length == 2);
        methodsAreShort(source);
        callsAreNotDeep(code);
        Due.end("LanguageTest");
    }

    /** A method begins at 4 or 8 spaces and ends with a brace at as many. */
    private static final Pattern HEAD = Pattern.compile("^( {4}| {8})[a-z].*?(\\w+)\\([^()]*\\) \\{$");
    private static final Pattern NO_METHOD = Pattern.compile(" *(if|for|while|switch|do|else)\\b.*");
    private static final Pattern CALL = Pattern.compile("(\\bnew )?\\b(\\w+)\\(");
    private static final int MOST_DEEP = 8;

    private static int endOf(String[] lines, int first) {
        Matcher head = HEAD.matcher(lines[first]);
        if (!head.matches() || NO_METHOD.matcher(lines[first]).matches()) return first;
        int last = first;
        while (last < lines.length && !lines[last].equals(head.group(1) + "}")) last++;
        return last;
    }

    private static void methodsAreShort(String source) {
        String[] lines = source.split("\n");
        for (int first = 0; first < lines.length; first++) {
            int last = endOf(lines, first);
            if (last > first) Due.holds(lines[first].trim() + " is short", last - first < 60);
        }
    }

    /** Methods of one name count as one, which can only make a way of calls seem longer. */
    private static void callsAreNotDeep(String code) {
        Map<String, Set<String>> called = new TreeMap<>();
        Set<String> open = new HashSet<>();
        String[] lines = code.split("\n");
        for (int first = 0; first < lines.length; first++) {
            Matcher head = HEAD.matcher(lines[first]);
            int last = endOf(lines, first);
            if (last == first || !head.matches()) continue;
            Set<String> calls = called.computeIfAbsent(head.group(2), name -> new HashSet<>());
            for (int line = first + 1; line < last; line++) {
                Matcher call = CALL.matcher(lines[line]);
                while (call.find()) if (call.group(1) == null) calls.add(call.group(2));
            }
            if (lines[first].startsWith("    public ")) open.add(head.group(2));
        }
        Due.holds("the methods are found: " + called.keySet(), open.size() == 31 && called.size() > 31);
        for (String name : open) {
            String way = deepest(called, name, new HashSet<>());
            Due.holds("calls go at most " + MOST_DEEP + " deep:" + way, way.split(" ").length - 1 <= MOST_DEEP);
        }
    }

    /** The longest way of calls from a method, each of the class's own methods once in it. */
    private static String deepest(Map<String, Set<String>> called, String name, Set<String> above) {
        String longest = "";
        above.add(name);
        for (String next : called.get(name)) {
            if (!called.containsKey(next) || above.contains(next)) continue;
            String way = deepest(called, next, above);
            if (way.split(" ").length > longest.split(" ").length) longest = way;
        }
        above.remove(name);
        return " " + name + longest;
    }
}
