import java.io.IOException;
import java.lang.reflect.Method;
import java.lang.reflect.Modifier;
import java.nio.file.Files;
import java.nio.file.Path;
import java.util.Map;
import java.util.TreeSet;
import java.util.regex.Matcher;
import java.util.regex.Pattern;

/**
 * Makes the run of calls that README.md shows: each must answer what stands behind it, each of the face must be shown.
 * A line of any other form than those below is wrong, so that none is passed over.
 */
public final class ReadmeTest {
    private static final Pattern MADE = Pattern.compile("RangePapers x = new RangePapers\\(\\);");
    private static final Pattern LETTERS = Pattern.compile("for \\(char letter : \"(\\w+)\"\\.toCharArray\\(\\)\\) \\{");
    private static final Pattern LETTER = Pattern.compile("    x\\.write\\(letter\\);");
    private static final Pattern END = Pattern.compile("\\}");
    private static final Pattern ASKED = Pattern.compile("x\\.(\\w+)\\((.*?)\\); +// (-?\\d+|[A-Z]+)\\b.*");
    private static final Map<String, Integer> NAMED = Map.of("UNKNOWN", RangePapers.UNKNOWN, "BAD", RangePapers.BAD,
            "LATE", RangePapers.LATE, "FULL", RangePapers.FULL, "NONE", RangePapers.NONE);

    private final Due due = new Due();
    private final TreeSet<String> shown = new TreeSet<>();
    private RangePapers x;
    private int objects;

    public static void main(String[] args) throws IOException {
        ReadmeTest test = new ReadmeTest();
        test.go(Files.readString(Path.of("README.md")));
        test.due.end();
    }

    private void go(String page) {
        Matcher blocks = Pattern.compile("(?s)```java\n(.*?)```").matcher(page);
        while (blocks.find()) {
            for (String line : blocks.group(1).split("\n")) {
                due.begin("README: " + line);
                make(line);
            }
        }
        due.begin("README");
        due.is("objects that are made", objects, 1);
        due.same("what is shown", shown.toString(), face().toString());
    }

    private void make(String line) {
        Matcher letters = LETTERS.matcher(line);
        Matcher asked = ASKED.matcher(line);
        if (MADE.matcher(line).matches()) {
            x = new RangePapers();
            objects++;
        } else if (letters.matches()) {
            Due.write(x, letters.group(1));
        } else if (asked.matches()) {
            ask(asked.group(1), asked.group(2), asked.group(3));
        } else if (!LETTER.matcher(line).matches() && !END.matcher(line).matches()) {
            due.same("the line", line, "of a form that this test can read");
        }
    }

    private void ask(String name, String arguments, String answer) {
        String[] told = arguments.isEmpty() ? new String[0] : arguments.split(", ");
        long[] numbers = new long[told.length];
        for (int i = 0; i < told.length; i++) {
            numbers[i] = number(told[i]);
        }
        shown.add(name);
        long want = NAMED.containsKey(answer) ? NAMED.get(answer) : Long.parseLong(answer);
        due.is(name, new Call(name, numbers).on(x), want);
    }

    /** A boolean is told to Call as 1 or 0, a letter as its number. */
    private static long number(String told) {
        if (told.matches("'.'")) {
            return told.charAt(1);
        }
        if (told.matches("true|false")) {
            return told.equals("true") ? 1 : 0;
        }
        return Long.parseLong(told.replaceAll("L$", ""));
    }

    private static TreeSet<String> face() {
        TreeSet<String> names = new TreeSet<>();
        for (Method method : RangePapers.class.getDeclaredMethods()) {
            if (Modifier.isPublic(method.getModifiers())) {
                names.add(method.getName());
            }
        }
        return names;
    }
}
