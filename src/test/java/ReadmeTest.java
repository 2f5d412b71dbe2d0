import java.io.IOException;
import java.lang.reflect.Method;
import java.net.URL;
import java.net.URLClassLoader;
import java.nio.file.Files;
import java.nio.file.Path;
import java.util.ArrayList;
import java.util.List;
import java.util.Set;
import java.util.TreeSet;
import java.util.function.LongConsumer;
import java.util.regex.Matcher;
import java.util.regex.Pattern;
import java.util.stream.Collectors;
import java.util.stream.Stream;
import javax.tools.ToolProvider;

/** What README.md shows is so: its example compiles and answers as told, its way to run the tests runs them all. */
public final class ReadmeTest {
    private static final Path README = Path.of("README.md");
    private static final Path SCRIPT = Path.of(".ci/run");
    private static final Path TESTS = Path.of("src/test/java");
    private static final Path OUT = Path.of("build/readme");
    private static final String EXAMPLE = "ReadmeExample";
    private static final Pattern ANSWERED = Pattern.compile("\\s*(asks\\.\\w+\\(.*\\));\\s*// (-?\\d+)(:.*)?");

    private static final Checks c = new Checks();

    public static void main(String[] args) throws Exception {
        String page = Files.readString(README);
        List<String> example = blocks(page, "java");
        showsEveryCall(example);
        answersAsTold(example);
        tellsHowToRun(page);
        tellsEachTest(page);
        c.end("ReadmeTest");
    }

    /** The lines of all pieces of a language, one piece behind another. */
    private static List<String> blocks(String page, String language) {
        List<String> lines = new ArrayList<>();
        Matcher matcher = Pattern.compile("(?s)```" + language + "\n(.*?)```").matcher(page);
        while (matcher.find()) {
            lines.addAll(matcher.group(1).lines().collect(Collectors.toList()));
        }
        return lines;
    }

    private static void showsEveryCall(List<String> example) {
        String code = String.join("\n", example);
        for (Method call : Beside.face()) {
            c.due("shown: " + call.getName(), code.contains("asks." + call.getName() + "(") ? 1 : 0, 1);
        }
        // a line whose number is not found by the pattern would be run, but not held against it
        for (String line : example) {
            boolean toldOf = line.contains("//");
            c.due("told as an answer: " + line, ANSWERED.matcher(line).matches() == toldOf ? 1 : 0, 1);
        }
    }

    private static void answersAsTold(List<String> example) throws Exception {
        List<String> calls = new ArrayList<>();
        List<Long> due = new ArrayList<>();
        StringBuilder source = new StringBuilder();
        source.append("public final class " + EXAMPLE + " {\n");
        source.append("public static void run(java.util.function.LongConsumer told) {\n");
        for (String line : example) {
            Matcher matcher = ANSWERED.matcher(line);
            if (matcher.matches()) {
                calls.add(matcher.group(1));
                due.add(Long.parseLong(matcher.group(2)));
                source.append("told.accept(" + matcher.group(1) + ");\n");
            } else {
                source.append(line).append('\n');
            }
        }
        source.append("}\n}\n");
        List<Long> got = run(source.toString());
        c.due("how many answers", got.size(), due.size());
        for (int t = 0; t < Math.min(got.size(), due.size()); t++) {
            c.due("README.md: " + calls.get(t), got.get(t), due.get(t));
        }
    }

    private static List<Long> run(String source) throws Exception {
        List<Long> got = new ArrayList<>();
        Files.createDirectories(OUT);
        Path file = OUT.resolve(EXAMPLE + ".java");
        Files.writeString(file, source);
        int failed = ToolProvider.getSystemJavaCompiler().run(null, null, null,
            "-cp", System.getProperty("java.class.path"), "-d", OUT.toString(), file.toString());
        c.due("the example compiles", failed, 0);
        if (failed == 0) {
            try (URLClassLoader loader = new URLClassLoader(new URL[] {OUT.toUri().toURL()})) {
                Method run = loader.loadClass(EXAMPLE).getMethod("run", LongConsumer.class);
                run.invoke(null, (LongConsumer) got::add);
            }
        }
        return got;
    }

    private static void tellsHowToRun(String page) throws IOException {
        c.same("the way to run the tests", String.join("\n", blocks(page, "sh")), SCRIPT.toString());
        c.due(SCRIPT + " can be run", Files.isExecutable(SCRIPT) ? 1 : 0, 1);
        boolean all = Files.readString(SCRIPT).contains("in ../shared/tests/*.java src/test/java/*Test.java;");
        c.due(SCRIPT + " goes over all tests", all ? 1 : 0, 1);
    }

    private static void tellsEachTest(String page) throws IOException {
        Set<String> told = new TreeSet<>();
        Matcher matcher = Pattern.compile("(?m)^\\| (\\w+Test) \\|").matcher(page);
        while (matcher.find()) {
            told.add(matcher.group(1));
        }
        Set<String> there = new TreeSet<>();
        try (Stream<Path> files = Files.walk(TESTS)) {
            for (Path file : files.filter(Files::isRegularFile).collect(Collectors.toList())) {
                if (Files.readString(file).contains("public static void main(")) {
                    c.same(file + " stands where " + SCRIPT + " looks", file.getParent().toString(), TESTS.toString());
                    there.add(file.getFileName().toString().replace(".java", ""));
                }
            }
        }
        // each ends in Test, as the table's pattern asks, so .ci/run comes to it
        c.same("the table of tests", told.toString(), there.toString());
    }
}
