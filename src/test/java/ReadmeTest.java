import java.io.IOException;
import java.nio.file.Files;
import java.nio.file.Path;
import java.util.HashMap;
import java.util.List;
import java.util.Map;
import java.util.regex.Matcher;
import java.util.regex.Pattern;

/** README.md: its example answers what it says there, and its table tells of each call. */
public final class ReadmeTest {
    private static final Path README = Path.of("README.md");
    /** A call, perhaps kept under a name, and the answer that the comment behind it may begin with. */
    private static final Pattern LINE = Pattern.compile(
            "(?:int (\\w+) = )?x\\.(\\w+)\\((.*)\\);\\s*// (?:(-?\\d+|true|false)(?::.*)?|.*)");

    private final LinkResolver x = new LinkResolver();
    private final Map<String, Integer> values = new HashMap<>(Map.of("true", 1, "false", 0));

    public static void main(String[] args) throws IOException {
        Check.begin();
        List<String> lines = Files.readAllLines(README);
        new ReadmeTest().example(lines);
        table(lines);
        Check.end();
    }

    private void example(List<String> lines) {
        int first = lines.indexOf("```java") + 1;
        Check.same("README: the example begins", lines.indexOf("LinkResolver x = new LinkResolver();"), first);
        for (int i = first + 1; !lines.get(i).equals("```"); i++) {
            Matcher line = LINE.matcher(lines.get(i));
            if (line.matches()) {
                ask(line);
            } else {
                Check.fails("README: not a call: " + lines.get(i));
            }
        }
    }

    private void ask(Matcher line) {
        String[] told = line.group(3).split(", ");
        int[] a = new int[told.length];
        for (int i = 0; i < a.length; i++) {
            a[i] = value(told[i]);
        }
        int answer = (int) Calls.make(x, Calls.numbered(line.group(2)), a);
        if (line.group(1) != null) {
            values.put(line.group(1), answer);
        } else {
            Check.yes("README tells an answer: " + line.group(), line.group(4) != null);
            Check.same("README: " + line.group(), answer, value(line.group(4)));
        }
    }

    private int value(String told) {
        Integer value = values.get(told);
        return value != null ? value : Integer.parseInt(told);
    }

    /** The names of the arguments aside, a row begins with the number of the promise and the call. */
    private static void table(List<String> lines) {
        for (int which = Calls.ADD_TITLE; which <= Calls.IS_NEEDLESS; which++) {
            String row = "| " + Calls.promise(which) + " | `" + Calls.name(which) + "(";
            Check.yes("README: " + row, lines.stream().anyMatch(line -> line.startsWith(row)));
        }
    }
}
