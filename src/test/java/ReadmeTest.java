import java.lang.reflect.Method;
import java.nio.file.Files;
import java.nio.file.Path;
import java.util.Set;
import java.util.TreeSet;
import java.util.regex.Matcher;
import java.util.regex.Pattern;

/** README.md's calls answer what it says, and it shows every call; run in the project's folder. */
public final class ReadmeTest {
    private static final String MADE = "KiteMeet meet = new KiteMeet();";
    private static final Pattern CALL =
            Pattern.compile("meet\\.(\\w+)\\(([^)]*)\\);\\s+// (-?\\d+)\\b.*");

    private static KiteMeet meet;

    public static void main(String[] args) throws Exception {
        Set<String> shown = new TreeSet<>();
        boolean inside = false;
        for (String line : Files.readAllLines(Path.of("README.md"))) {
            if (line.startsWith("```")) {
                inside = line.equals("```java");
            } else if (inside && line.equals(MADE)) {
                meet = new KiteMeet();
            } else if (inside) {
                shown.add(shownCall(line));
            }
        }
        Set<String> face = new TreeSet<>();
        for (Method m : KiteMeet.class.getMethods()) {
            if (m.getDeclaringClass() == KiteMeet.class) {
                face.add(m.getName());
            }
        }
        Due.holds("every call is shown: " + shown, shown.equals(face));
        Due.end();
    }

    /** Holds a line's call to its answer: the call's name. */
    private static String shownCall(String line) throws Exception {
        Matcher m = CALL.matcher(line);
        if (!m.matches()) {
            Due.holds("a call with its answer: " + line, false);
            return line;
        }
        int want = Integer.parseInt(m.group(3));
        Due.due(line, Calls.answer(meet, m.group(1), numbers(m.group(2))), want);
        return m.group(1);
    }

    private static int[] numbers(String told) {
        String[] parts = told.isEmpty() ? new String[0] : told.split(", ");
        int[] numbers = new int[parts.length];
        for (int i = 0; i < parts.length; i++) {
            boolean truth = parts[i].equals("true") || parts[i].equals("false");
            numbers[i] = !truth ? Integer.parseInt(parts[i]) : parts[i].equals("true") ? 1 : 0;
        }
        return numbers;
    }
}
