import java.io.IOException;
import java.lang.reflect.Constructor;
import java.lang.reflect.Field;
import java.lang.reflect.Method;
import java.lang.reflect.Modifier;
import java.nio.file.Files;
import java.nio.file.Path;
import java.util.ArrayList;
import java.util.HashSet;
import java.util.List;
import java.util.Set;
import java.util.TreeSet;
import java.util.regex.Matcher;
import java.util.regex.Pattern;

/** All promises: the class has the face that the document writes out; and the program keeps to LANGUAGE.md. */
public final class FaceTest {
    private static final Path PROGRAM = Path.of("src/main/java/StatueChancery.java");
    private static final Path DOCUMENT = Path.of("../shared/DOC.md");
    /** Rules 2, 4, 6, 10 and 13: words that the program does not use at all. */
    private static final String[] RULED_OUT = {"->", "::", "catch", "finally", "synchronized",
        "assert ", "Exact(", "Math.random", "System.nanoTime", "System.currentTimeMillis", "System.out",
        "String.valueOf", ".toString()", ".equals(", "hashCode", "getMessage", "java.io", "java.util.function",
        "protected ", "static {", "package "};

    private int wrong = 0;

    public static void main(String[] args) throws IOException {
        FaceTest test = new FaceTest();
        test.compareMethods();
        test.compareOtherMembers();
        test.lookForRuledOutWords();
        if (test.wrong > 0) {
            System.exit(1);
        }
    }

    private void compareMethods() throws IOException {
        Set<String> due = new TreeSet<>();
        Matcher matcher = Pattern.compile("^    public (\\w+) (\\w+)\\((.*?)\\)(?: throws (.*))?;$", Pattern.MULTILINE)
                .matcher(Files.readString(DOCUMENT));
        while (matcher.find()) {
            String types = matcher.group(3).replaceAll("(\\w+) \\w+", "$1");
            String exceptions = matcher.group(4) == null ? "" : matcher.group(4).replace(" ", "");
            due.add(matcher.group(1) + " " + matcher.group(2) + "(" + types.replace(" ", "") + ") " + exceptions);
        }
        Set<String> got = new TreeSet<>();
        for (Method method : StatueChancery.class.getDeclaredMethods()) {
            if (!Modifier.isPrivate(method.getModifiers())) {
                got.add(method.getReturnType().getSimpleName() + " " + method.getName() + "("
                        + names(method.getParameterTypes()) + ") " + names(method.getExceptionTypes()));
            }
        }
        expect(due.size() == 61, "the document writes out " + due.size() + " methods");
        for (String method : due) {
            expect(got.contains(method), "there is " + method);
        }
        for (String method : got) {
            expect(due.contains(method), "the document has " + method);
        }
    }

    private static String names(Class<?>[] types) {
        List<String> names = new ArrayList<>();
        for (Class<?> type : types) {
            names.add(type.getSimpleName());
        }
        return String.join(",", names);
    }

    private void compareOtherMembers() {
        Class<?> program = StatueChancery.class;
        expect(Modifier.isPublic(program.getModifiers()) && Modifier.isFinal(program.getModifiers()),
                "the class is public and final");
        Constructor<?>[] constructors = program.getDeclaredConstructors();
        expect(constructors.length == 1 && constructors[0].getParameterCount() == 0
                && Modifier.isPublic(constructors[0].getModifiers()), "there is one public constructor");
        for (Field field : program.getDeclaredFields()) {
            int modifiers = field.getModifiers();
            expect(Modifier.isPrivate(modifiers), field + " is private");
            expect(!Modifier.isStatic(modifiers) || Modifier.isFinal(modifiers), field + " is final if static");
        }
        Set<String> open = new HashSet<>();
        for (Method method : program.getDeclaredMethods()) {
            if (Modifier.isPublic(method.getModifiers())) {
                open.add(method.getName());
            }
        }
        for (Class<?> inside : program.getDeclaredClasses()) {
            expect(Modifier.isStatic(inside.getModifiers()), inside + " is static");
            for (Method method : inside.getDeclaredMethods()) {
                expect(!open.contains(method.getName()), method + " does not bear the name of a public method");
            }
        }
        expect(program.getDeclaredClasses().length <= 12, "there are at most some twelve classes");
    }

    private void lookForRuledOutWords() throws IOException {
        String text = Files.readString(PROGRAM).replaceAll("(?s)/\\*.*?\\*/", "");
        for (String word : RULED_OUT) {
            expect(!text.contains(word), "the program has no " + word);
        }
        Matcher imports = Pattern.compile("(?m)^import (.*);$").matcher(text);
        while (imports.find()) {
            expect(imports.group(1).equals("java.util.NoSuchElementException"), "no import of " + imports.group(1));
        }
    }

    private void expect(boolean right, String what) {
        if (!right) {
            wrong++;
            System.out.println("not so: " + what);
        }
    }
}
