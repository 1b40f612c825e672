import java.nio.file.Files;
import java.nio.file.Path;
import java.util.Set;
import java.util.TreeSet;
import java.util.regex.Matcher;
import java.util.regex.Pattern;

/** The example of README.md answers what README.md says, and README.md names every call. */
public final class ReadmeTest {
    private static final Pattern CALL = Pattern.compile("room\\.(\\w+)\\(([^)]*)\\);\\s*// (-?\\d+): .*");

    public static void main(String[] args) throws Exception {
        String all = Files.readString(Path.of("README.md"));
        Bounds b = new Bounds();
        b.sentence("README.md says how the class is used");
        b.due("calls of the example", answers(b, all), 20);
        b.due("lines of the example that are no call", otherLines(all), 1);
        b.sentence("README.md names every call");
        for (String name : names()) {
            b.due("'" + name + "' in README.md", all.contains("`" + name + "`") ? 1 : 0, 1);
        }
        b.end();
    }

    private static String example(String all) {
        Matcher block = Pattern.compile("(?s)```java\n(.*?)```").matcher(all);
        return block.find() ? block.group(1) : "";
    }

    private static int answers(Bounds b, String all) {
        LeftTillCalled room = new LeftTillCalled();
        int calls = 0;
        for (String line : example(all).split("\n")) {
            Matcher m = CALL.matcher(line);
            if (m.matches()) {
                b.due(line, Bounds.ask(room, m.group(1), numbers(m.group(2))), Long.parseLong(m.group(3)));
                calls++;
            }
        }
        return calls;
    }

    private static int otherLines(String all) {
        int others = 0;
        for (String line : example(all).split("\n")) {
            others += CALL.matcher(line).matches() ? 0 : 1;
        }
        return others;
    }

    private static long[] numbers(String told) {
        String[] parts = told.isBlank() ? new String[0] : told.split(",");
        long[] all = new long[parts.length];
        for (int i = 0; i < parts.length; i++) {
            all[i] = Long.decode(parts[i].trim());
        }
        return all;
    }

    private static Set<String> names() {
        Set<String> all = new TreeSet<>();
        for (var m : LeftTillCalled.class.getDeclaredMethods()) {
            if (java.lang.reflect.Modifier.isPublic(m.getModifiers())) {
                all.add(m.getName());
            }
        }
        return all;
    }
}
