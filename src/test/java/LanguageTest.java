import java.nio.file.Files;
import java.nio.file.Path;
import java.util.List;
import java.util.regex.Matcher;
import java.util.regex.Pattern;

/** What can be seen of LANGUAGE.md's rules in the source's text; run in the project's folder. */
public final class LanguageTest {
    private static final List<String> REFUSED = List.of(
            "\\b(throw|throws|try|catch|finally|synchronized|assert|native|volatile|transient)\\b",
            "\\b(package|import)\\b", "->", "::", "@", "\\b(protected)\\b",
            "\\b(hashCode|toString|equals|wait|notify|getClass)\\b", "\\bstatic\\s*\\{",
            "\\b(System)\\.(?!arraycopy\\b)", "\\bMath\\.\\w*Exact\\b", "\\bMath\\.random\\b",
            "\\b(Object|Thread|Random|Runtime|Class|Exception|Error)\\b", "\\b(double|float)\\b",
            "while\\s*\\(\\s*true", "for\\s*\\(\\s*;");

    public static void main(String[] args) throws Exception {
        String whole = Files.readString(Path.of("src/main/java/KiteMeet.java"));
        Due.holds("signs 1 to 127 alone", whole.chars().allMatch(c -> c > 0 && c < 128));
        String code = whole.replaceAll("(?s)/\\*.*?\\*/", "").replaceAll("//[^\n]*", "");
        for (String refused : REFUSED) {
            Matcher m = Pattern.compile(refused).matcher(code);
            Due.holds("the source has no " + refused, !m.find());
        }
        staticFieldsAreConstants(code);
        methodsAreShort(whole);
        Due.end();
    }

    private static void staticFieldsAreConstants(String code) {
        Matcher m = Pattern.compile("\\bstatic\\b([^;{(]*?)[=;]").matcher(code);
        while (m.find()) {
            Due.holds("a constant: " + m.group(), m.group(1).matches(" final int(\\[\\])? [A-Z_]+ "));
        }
    }

    /** A method's or a class's lines go from its head to the brace below the head's column. */
    private static void methodsAreShort(String whole) {
        String[] lines = whole.split("\n");
        Pattern head = Pattern.compile("^( +)[\\w\\[\\] ]+\\([^;]*\\) \\{$");
        for (int i = 0; i < lines.length; i++) {
            Matcher m = head.matcher(lines[i]);
            if (m.matches()) {
                int end = i + 1;
                while (end < lines.length && !lines[end].equals(m.group(1) + "}")) {
                    end++;
                }
                Due.holds("at most sixty lines: " + lines[i].trim(), end - i < 60);
            }
            Due.holds("at most 100 signs: line " + (i + 1), lines[i].length() <= 100);
        }
    }
}
