import java.lang.reflect.InvocationTargetException;
import java.lang.reflect.Method;
import java.util.HashMap;
import java.util.List;
import java.util.Map;

/**
 * Runs of calls on new objects, written a call a line with the answer that is due behind "=":
 *
 * <pre>
 *   addPedestal() = 0
 *   hear(0) = 'u'
 *   arrow(9) = throws.IndexOutOfBoundsException
 *   homeShare() = 0.5
 *   run "night;hear 0" = 2        types the text and calls runScript
 *   type "night" = 5              types the text
 *   text = "0@0>0 5kg"            reads the whole output text by outputAt
 * </pre>
 *
 * A call without "=" may answer anything, but must not throw. A line that begins with // is a remark.
 */
final class Runs {
    /** Calls that show what a look alone does not, each behind the rest on an object of its own. */
    private static final List<String> ENDINGS = List.of("", "undo()", "undo() ".repeat(2),
            "undo() ".repeat(3), "undo() ".repeat(4), "undo() ".repeat(5), "undo() ".repeat(6), "undo() ".repeat(7),
            "undo() ".repeat(8), "undo() ".repeat(9), "restore()", "type(33)", "issueWrit(0,0,1)", "hear(0)",
            "hear(1) hear(2) hear(3) hear(4) hear(5) hear(6) hear(7) hear(8)", "runScript()");

    private static final Map<String, Method> METHODS = methods();

    private int wrong = 0;

    /** Runs the lines of all blocks, one behind the other, on one new object. */
    void run(String title, String... blocks) {
        Desk desk = new Desk();
        for (String row : rows(blocks)) {
            check(title, row, desk);
        }
    }

    /** Checks the answer of a call behind a start, and that it leaves all as it was, also what undo brings back. */
    void changesNothing(String title, String start, String row) {
        same(title, start + "\n" + row, start);
    }

    /** The same, but for the error position, the failed command and its kind, which a script may change. */
    void changesNothingButScripts(String title, String start, String row) {
        run(title, start, row);
        for (String ending : ENDINGS) {
            compare(title, ending, look(ending, false, start, row), look(ending, false, start));
        }
    }

    /** Checks that two ways lead to the same, also in what undo and the snapshot bring back. */
    void same(String title, String oneWay, String otherWay) {
        run(title, oneWay);
        run(title, otherWay);
        for (String ending : ENDINGS) {
            compare(title, ending, look(ending, true, oneWay), look(ending, true, otherWay));
        }
    }

    /** Checks that two ways lead to the same, but for what can be undone. */
    void sameNow(String title, String oneWay, String otherWay) {
        run(title, oneWay);
        run(title, otherWay);
        compare(title, "", look("", true, oneWay), look("", true, otherWay));
    }

    /** Checks that a call refuses what is too small or too large where it has a #, and leaves all as it was. */
    void refusesOutside(String title, String start, String call, int least, int most, String exception) {
        for (int number : new int[] {Integer.MIN_VALUE, least - 1, most + 1, Integer.MAX_VALUE}) {
            String shown = call.replace("#", String.valueOf(number));
            changesNothing(title + ": " + shown, start, shown + " = throws." + exception);
        }
    }

    /** Prints what is wrong in total, and ends the machine with exit code 1 if there is something. */
    void end() {
        if (wrong > 0) {
            System.out.println(wrong + " answers are not as due");
            System.exit(1);
        }
    }

    private static List<String> rows(String... blocks) {
        return String.join("\n", blocks).lines().map(String::strip)
                .filter(row -> !row.isEmpty() && !row.startsWith("//")).toList();
    }

    private void check(String title, String row, Desk desk) {
        int sign = row.lastIndexOf(" = ");
        String got = desk.answer(call(row));
        boolean right = sign < 0 ? !got.startsWith("throws.") : got.equals(row.substring(sign + 3).strip());
        if (!right) {
            wrong++;
            System.out.println(title + ": " + row + " -- answered " + got);
        }
    }

    private static String call(String row) {
        int sign = row.lastIndexOf(" = ");
        return sign < 0 ? row : row.substring(0, sign).strip();
    }

    private static String look(String ending, boolean atScripts, String... blocks) {
        Desk desk = new Desk();
        for (String row : rows(blocks)) {
            desk.answer(call(row));
        }
        StringBuilder seen = new StringBuilder();
        for (String call : ending.isEmpty() ? new String[0] : ending.split(" ")) {
            seen.append(call).append(" = ").append(desk.answer(call)).append('\n');
        }
        return seen + Sight.of(desk) + (atScripts ? Sight.ofScripts(desk) : "");
    }

    private void compare(String title, String ending, String got, String due) {
        if (!got.equals(due)) {
            wrong++;
            System.out.println(title + ": something has changed, seen with " + ending.strip() + "\n" + got
                    + "\n-- instead of\n" + due);
        }
    }

    /** Calls a method by its name, and returns what it answers, or throws. and the name of what it throws. */
    static String answer(StatueChancery chancery, String name, List<Integer> arguments) {
        Method method = method(name);
        Object[] given = new Object[arguments.size()];
        for (int i = 0; i < given.length; i++) {
            int argument = arguments.get(i);
            if (method.getParameterTypes()[i] == char.class) {
                given[i] = (char) argument;
            } else {
                given[i] = argument;
            }
        }
        try {
            Object got = method.invoke(chancery, given);
            return got instanceof Character ? "'" + got + "'" : got.toString();
        } catch (InvocationTargetException e) {
            return "throws." + e.getCause().getClass().getSimpleName();
        } catch (IllegalAccessException e) {
            throw new IllegalStateException(e);
        }
    }

    static Method method(String name) {
        Method method = METHODS.get(name);
        if (method == null) {
            throw new IllegalStateException("no method " + name);
        }
        return method;
    }

    private static Map<String, Method> methods() {
        Map<String, Method> methods = new HashMap<>();
        for (Method method : StatueChancery.class.getDeclaredMethods()) {
            methods.put(method.getName(), method);
        }
        return methods;
    }
}
