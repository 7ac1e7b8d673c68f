import java.io.IOException;
import java.nio.file.DirectoryStream;
import java.nio.file.Files;
import java.nio.file.Path;
import java.util.Set;
import java.util.TreeSet;
import java.util.regex.Matcher;
import java.util.regex.Pattern;

/** All promises: the document's promises are those that the tests of the edges name, each at least once. */
public final class EdgesNamedTest {
    private static final Pattern PROMISE = Pattern.compile("(?m)^## Promise (\\d+):");
    private static final Pattern TITLE = Pattern.compile("\"P(\\d+): ");

    public static void main(String[] args) throws IOException {
        Set<Integer> due = numbers(PROMISE, Files.readString(Path.of("../shared/DOC.md")));
        Set<Integer> named = new TreeSet<>();
        try (DirectoryStream<Path> tests = Files.newDirectoryStream(Path.of("src/test/java"), "*EdgesTest.java")) {
            for (Path test : tests) {
                named.addAll(numbers(TITLE, Files.readString(test)));
            }
        }
        if (due.isEmpty() || !due.equals(named)) {
            System.out.println("the document has the promises " + due + ", tests of edges name " + named);
            System.exit(1);
        }
    }

    private static Set<Integer> numbers(Pattern pattern, String text) {
        Set<Integer> numbers = new TreeSet<>();
        Matcher matcher = pattern.matcher(text);
        while (matcher.find()) {
            numbers.add(Integer.parseInt(matcher.group(1)));
        }
        return numbers;
    }
}
