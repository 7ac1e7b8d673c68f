import java.lang.reflect.InvocationTargetException;
import java.lang.reflect.Method;
import java.util.ArrayList;
import java.util.List;

/**
 * Runs of calls on new objects, written a call a line with the answer that is due behind "=":
 *
 * <pre>
 *   addPedestal() = 0
 *   hear(0) = 'u'
 *   arrow(9) = throws.IndexOutOfBoundsException
 *   homeShare() = 0.5
 *   run "night;hear 0" = 2        types the text and calls runScript
 *   text = "0@0>0 5kg"            reads the whole output text by outputAt
 * </pre>
 *
 * A call without "=" may answer anything, but must not throw. A line that begins with // is a remark.
 */
final class Runs {
    private int wrong = 0;

    void run(String title, String lines) {
        StatueChancery chancery = new StatueChancery();
        for (String line : lines.split("\n")) {
            String row = line.strip();
            if (!row.isEmpty() && !row.startsWith("//")) {
                check(title, row, chancery);
            }
        }
    }

    /** Prints what is wrong in total, and ends the machine with exit code 1 if there is something. */
    void end() {
        if (wrong > 0) {
            System.out.println(wrong + " answers are not as due");
            System.exit(1);
        }
    }

    private void check(String title, String row, StatueChancery chancery) {
        int sign = row.lastIndexOf(" = ");
        String call = sign < 0 ? row : row.substring(0, sign).strip();
        String got = answer(chancery, call);
        boolean right = sign < 0 ? !got.startsWith("throws.") : got.equals(row.substring(sign + 3).strip());
        if (!right) {
            wrong++;
            System.out.println(title + ": " + row + " -- answered " + got);
        }
    }

    private static String answer(StatueChancery chancery, String call) {
        if (call.equals("text")) {
            return '"' + outputText(chancery) + '"';
        }
        if (call.startsWith("run ")) {
            String script = call.substring(call.indexOf('"') + 1, call.lastIndexOf('"'));
            for (char character : script.toCharArray()) {
                chancery.type(character);
            }
            return answer(chancery, "runScript()");
        }
        int open = call.indexOf('(');
        return answer(chancery, call.substring(0, open), arguments(call.substring(open + 1, call.lastIndexOf(')'))));
    }

    /** Calls a method by its name, and returns what it answers, or throws. and the name of what it throws. */
    static String answer(StatueChancery chancery, String name, List<Integer> arguments) {
        Method method = method(name);
        Object[] given = new Object[arguments.size()];
        for (int i = 0; i < given.length; i++) {
            int argument = arguments.get(i);
            if (method.getParameterTypes()[i] == char.class) {
                given[i] = (char) argument;
            } else {
                given[i] = argument;
            }
        }
        try {
            Object got = method.invoke(chancery, given);
            return got instanceof Character ? "'" + got + "'" : got.toString();
        } catch (InvocationTargetException e) {
            return "throws." + e.getCause().getClass().getSimpleName();
        } catch (IllegalAccessException e) {
            throw new IllegalStateException(e);
        }
    }

    static Method method(String name) {
        for (Method method : StatueChancery.class.getDeclaredMethods()) {
            if (method.getName().equals(name)) {
                return method;
            }
        }
        throw new IllegalStateException("no method " + name);
    }

    private static List<Integer> arguments(String text) {
        List<Integer> arguments = new ArrayList<>();
        for (String part : text.split(",")) {
            String argument = part.strip();
            if (argument.length() == 3 && argument.charAt(0) == '\'') {
                arguments.add((int) argument.charAt(1));
            } else if (!argument.isEmpty()) {
                arguments.add(Integer.parseInt(argument));
            }
        }
        return arguments;
    }

    private static String outputText(StatueChancery chancery) {
        StringBuilder text = new StringBuilder();
        for (int index = 0; index < 1000; index++) {
            try {
                text.append(chancery.outputAt(index));
            } catch (IndexOutOfBoundsException e) {
                return text.toString();
            }
        }
        return "without end";
    }
}
