import java.lang.reflect.Method;
import java.lang.reflect.Modifier;
import java.nio.file.Files;
import java.nio.file.Path;
import java.util.Set;
import java.util.TreeSet;
import java.util.regex.Matcher;
import java.util.regex.Pattern;

/** That README.md's rows of Java are what the class answers. They are one run on one object. */
public final class ReadmeTest {
    private static final Pattern BLOCK = Pattern.compile("(?s)```java\n(.*?)```");
    private static final Pattern WRITTEN = Pattern.compile(
            "for \\(char letter : \"([^\"]*)\"\\.toCharArray\\(\\)\\) \\{\n    mother\\.write\\(letter\\);\n\\}");
    private static final Pattern MADE = Pattern.compile("PearlMother mother = new PearlMother\\(\\);");
    private static final Pattern ASKED = Pattern.compile("mother\\.(\\w+)\\((.*)\\); +// (-?\\d+)(?:$|[:;, ].*)");
    private static final Pattern CONSTANT = Pattern.compile("(?m)^\\| `([A-Z]+)` \\| (-\\d+) \\|");
    private static final int MOST_CALLS = 512;

    private final Set<String> shown = new TreeSet<>();
    private PearlMother mother;
    private int calls;

    public static void main(String[] args) throws Exception {
        String page = Files.readString(Path.of("README.md"));
        ReadmeTest run = new ReadmeTest();
        Matcher block = BLOCK.matcher(page);
        while (block.find()) {
            run.rows(block.group(1));
        }
        Due.holds("README.md shows at most " + MOST_CALLS + " calls", run.calls <= MOST_CALLS);
        Due.same("what README.md shows", run.shown.toString(), face().toString());
        constants(page);
        Due.end("ReadmeTest");
    }

    private static Set<String> face() {
        Set<String> names = new TreeSet<>();
        for (Method method : PearlMother.class.getDeclaredMethods()) {
            if (Modifier.isPublic(method.getModifiers())) {
                names.add(method.getName());
            }
        }
        return names;
    }

    /** The rows of one block; a row of no known form is told as wrong, so that none is passed over. */
    private void rows(String block) throws Exception {
        Matcher written = WRITTEN.matcher(block);
        String rows = written.replaceAll("WRITE $1");
        for (String row : rows.split("\n")) {
            Matcher asked = ASKED.matcher(row);
            if (MADE.matcher(row).matches()) {
                mother = new PearlMother();
            } else if (row.startsWith("WRITE ") && mother != null) {
                write(row.substring("WRITE ".length()));
            } else if (asked.matches() && mother != null) {
                ask(asked.group(1), asked.group(2), Long.parseLong(asked.group(3)));
            } else {
                Due.holds("README.md: " + row + " is a row that can be run", row.isEmpty());
            }
        }
    }

    private void write(String text) {
        for (char letter : text.toCharArray()) {
            mother.write(letter);
            calls++;
        }
    }

    private void ask(String name, String told, long want) throws Exception {
        String[] figures = told.isEmpty() ? new String[0] : told.split(", ", -1);
        for (Method method : PearlMother.class.getDeclaredMethods()) {
            Class<?>[] types = method.getParameterTypes();
            if (method.getName().equals(name) && types.length == figures.length) {
                Object[] given = new Object[figures.length];
                for (int place = 0; place < given.length; place++) {
                    given[place] = figure(types[place], figures[place]);
                }
                Number got = (Number) method.invoke(mother, given);
                Due.due("README.md: " + name + "(" + told + ")", got.longValue(), want);
                shown.add(name);
                calls++;
                return;
            }
        }
        Due.holds("README.md: " + name + "(" + told + ") is a call of the class", false);
    }

    /** As javac reads it: a long needs its L where it is no int. */
    private static Object figure(Class<?> type, String told) {
        if (type == boolean.class) {
            Due.holds(told + " is true or false", told.equals("true") || told.equals("false"));
            return told.equals("true");
        }
        if (type == long.class && told.endsWith("L")) {
            return Long.parseLong(told.substring(0, told.length() - 1));
        }
        int figure = told.matches("'.'") ? told.charAt(1) : Integer.parseInt(told);
        if (type == long.class) {
            return (long) figure;
        }
        return figure;
    }

    private static void constants(String page) throws Exception {
        Matcher row = CONSTANT.matcher(page);
        int rows = 0;
        while (row.find()) {
            Due.due("README.md: " + row.group(1), PearlMother.class.getField(row.group(1)).getInt(null),
                    Integer.parseInt(row.group(2)));
            rows++;
        }
        Due.due("constants that README.md tells", rows, PearlMother.class.getFields().length);
    }
}
