import java.io.ByteArrayOutputStream;
import java.io.IOException;
import java.io.PrintStream;
import java.net.URL;
import java.net.URLClassLoader;
import java.nio.charset.StandardCharsets;
import java.nio.file.Files;
import java.nio.file.Path;
import java.util.List;
import java.util.Map;
import java.util.Set;
import java.util.TreeMap;
import java.util.TreeSet;
import java.util.regex.MatchResult;
import java.util.regex.Matcher;
import java.util.regex.Pattern;
import javax.tools.ToolProvider;

/** All promises: README.md tells each call with its exceptions, and its programs print what it says they print. */
public final class ReadmeTest {
    private static final Path README = Path.of("README.md");
    private static final Path DOCUMENT = Path.of("../shared/DOC.md");
    private static final int PROMISES = 62;

    private static final Pattern PROGRAM = Pattern.compile("(?ms)^```java\n(.*?)^```$");
    private static final Pattern NAME = Pattern.compile("public final class (\\w+)");
    private static final Pattern PRINTED = Pattern.compile("(?m)System\\.out\\.println\\(.*\\); +// (.*)$");
    private static final Pattern FACE = Pattern.compile("(?m)^    public (\\w+(?: \\w+)?\\(.*?\\))(?: throws (.*))?;$");
    private static final Pattern CALL_TOLD = Pattern.compile("(?m)^- `([^`]*\\))`:((?:.*\n  )*.*)$");
    private static final Pattern EXCEPTION = Pattern.compile("\\w+Exception");

    private int wrong = 0;

    public static void main(String[] args) throws IOException, ReflectiveOperationException {
        ReadmeTest test = new ReadmeTest();
        String readme = Files.readString(README);
        test.compareCalls(readme);
        test.runPrograms(readme);
        if (test.wrong > 0) {
            System.exit(1);
        }
    }

    private void compareCalls(String readme) throws IOException {
        Map<String, List<String>> due = calls(FACE, Files.readString(DOCUMENT));
        Map<String, List<String>> told = calls(CALL_TOLD, readme);
        expect(due.size() == PROMISES, "the document has " + due.size() + " calls");
        Set<String> all = new TreeSet<>(due.keySet());
        all.addAll(told.keySet());
        for (String call : all) {
            expect(told.containsKey(call), "README tells " + call);
            expect(due.containsKey(call), "the document has " + call);
            expect(due.get(call) == null || due.get(call).equals(told.get(call)),
                    call + " throws " + due.get(call) + " where README tells " + told.get(call));
        }
    }

    /** The exceptions of each call, in their order: the first group of a match is the call, the second tells them. */
    private Map<String, List<String>> calls(Pattern pattern, String text) {
        Map<String, List<String>> calls = new TreeMap<>();
        Matcher matcher = pattern.matcher(text);
        while (matcher.find()) {
            String exceptions = matcher.group(2) == null ? "" : matcher.group(2);
            List<String> before = calls.put(matcher.group(1), all(EXCEPTION, exceptions));
            expect(before == null, matcher.group(1) + " is told once");
        }
        return calls;
    }

    private static List<String> all(Pattern pattern, String text) {
        return pattern.matcher(text).results().map(MatchResult::group).toList();
    }

    private void runPrograms(String readme) throws IOException, ReflectiveOperationException {
        int programs = 0;
        Matcher matcher = PROGRAM.matcher(readme);
        while (matcher.find()) {
            runProgram(matcher.group(1));
            programs++;
        }
        expect(programs > 0, "README shows a program");
    }

    private void runProgram(String source) throws IOException, ReflectiveOperationException {
        Matcher name = NAME.matcher(source);
        if (!name.find()) {
            expect(false, "a program of README is a whole class:\n" + source);
            return;
        }
        Path built = Files.createTempDirectory("readme");
        Path file = built.resolve(name.group(1) + ".java");
        try {
            Files.writeString(file, source);
            List<String> due = PRINTED.matcher(source).results().map(printed -> printed.group(1).strip()).toList();
            List<String> got = compiles(file, built) ? printedBy(name.group(1), built) : List.of();
            expect(!due.isEmpty() && due.equals(got), name.group(1) + " prints " + got + " where README tells " + due);
        } finally {
            for (Path left : List.of(file, built.resolve(name.group(1) + ".class"), built)) {
                Files.deleteIfExists(left);
            }
        }
    }

    private static boolean compiles(Path file, Path built) {
        return ToolProvider.getSystemJavaCompiler().run(null, null, null, "-Xlint:all", "-Werror", "-cp",
                System.getProperty("java.class.path"), "-d", built.toString(), file.toString()) == 0;
    }

    private static List<String> printedBy(String program, Path built) throws IOException, ReflectiveOperationException {
        ByteArrayOutputStream printed = new ByteArrayOutputStream();
        PrintStream before = System.out;
        try (URLClassLoader loader = new URLClassLoader(new URL[] {built.toUri().toURL()});
                PrintStream caught = new PrintStream(printed, true, StandardCharsets.UTF_8)) {
            System.setOut(caught);
            loader.loadClass(program).getMethod("main", String[].class).invoke(null, (Object) new String[0]);
        } finally {
            System.setOut(before);
        }
        return printed.toString(StandardCharsets.UTF_8).lines().toList();
    }

    private void expect(boolean right, String what) {
        if (!right) {
            wrong++;
            System.out.println("not so: " + what);
        }
    }
}
