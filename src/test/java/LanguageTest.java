import java.nio.file.Files;
import java.nio.file.Path;
import java.util.regex.Matcher;
import java.util.regex.Pattern;

/** Rules of LANGUAGE.md that can be told from the words of the source alone. */
public final class LanguageTest {
    private static final Path SOURCE = Path.of("src/main/java/ThunderAsks.java");
    private static final String[] BANNED = {
        "\\b(throw|throws|try|catch|finally|synchronized|assert|volatile|transient|native|strictfp|package)\\b",
        "\\b(protected|instanceof|record|sealed|var|yield|double|float)\\b",
        "->", "::", "@\\w+", "\\w+Exact\\b", "\"", "\\.(hashCode|toString|equals|getClass)\\b",
        "\\bstatic\\s*\\{", "\\[\\]\\s*\\[\\]\\s*\\[\\]",
        "\\b(System\\.(?!arraycopy\\b)\\w+|Thread|Random|Object|Runtime)\\b"};
    private static final int LONGEST_METHOD = 60, MOST_PARAMETERS = 7, MOST_CLASSES = 12;

    private static final Checks c = new Checks();

    public static void main(String[] args) throws Exception {
        String source = Files.readString(SOURCE);
        c.due("signs beyond 127", source.chars().filter(sign -> sign > 127).count(), 0);
        String code = source.replaceAll("(?s)/\\*.*?\\*/", "").replaceAll("//[^\n]*", "");
        for (String banned : BANNED) {
            Matcher matcher = Pattern.compile(banned).matcher(code);
            c.due("banned: " + banned, matcher.find() ? 1 : 0, 0);
        }
        imports(code);
        methods(source);
        c.due("too many classes", count("\\b(class|enum|interface)\\s+\\w+", code) > MOST_CLASSES ? 1 : 0, 0);
        c.due("classes inside that are not static", count("\n +((?!static)\\w+ )*class ", code), 0);
        c.end("LanguageTest");
    }

    private static int count(String pattern, String code) {
        return (int) Pattern.compile(pattern).matcher(code).results().count();
    }

    private static void imports(String code) {
        Matcher matcher = Pattern.compile("import\\s+([^;]+);").matcher(code);
        while (matcher.find()) {
            boolean known = matcher.group(1).matches("java\\.util\\.(Arrays|ArrayList|List|Iterator)");
            c.due("import " + matcher.group(1), known ? 1 : 0, 1);
        }
    }

    /** A method begins with a line that ends in ") {" in a class, and ends with its own indent. */
    private static void methods(String source) {
        String[] lines = source.split("\n");
        Pattern head = Pattern.compile("^( {4}(?: {4})?)(?! |if|for|while|switch)[\\w\\[\\] ]+\\(([^)]*)\\) \\{$");
        for (int at = 0; at < lines.length; at++) {
            Matcher matcher = head.matcher(lines[at]);
            if (!matcher.matches()) {
                continue;
            }
            int end = at;
            while (!lines[end].equals(matcher.group(1) + "}")) {
                end++;
            }
            c.due("too long:" + lines[at], end - at + 1 > LONGEST_METHOD ? 1 : 0, 0);
            c.due("too many parameters:" + lines[at], matcher.group(2).split(",").length > MOST_PARAMETERS ? 1 : 0, 0);
        }
    }
}
