import java.util.ArrayList;
import java.util.List;

/** A new object that answers calls written as text, and takes no more calls than the document promises answers for. */
final class Desk {
    private static final int MOST_CALLS = 512;

    private final StatueChancery chancery = new StatueChancery();
    private int calls = 0;

    /** Answers a call in the form that Runs tells: a method with its arguments, or one of the short forms. */
    String answer(String call) {
        if (call.equals("text")) {
            return '"' + outputText() + '"';
        }
        if (call.startsWith("type ")) {
            return type(quoted(call));
        }
        if (call.startsWith("run ")) {
            String typed = type(quoted(call));
            return typed.startsWith("throws.") ? typed : answer("runScript", List.of());
        }
        int open = call.indexOf('(');
        return answer(call.substring(0, open), arguments(call.substring(open + 1, call.lastIndexOf(')'))));
    }

    String answer(String name, List<Integer> arguments) {
        count();
        return Runs.answer(chancery, name, arguments);
    }

    private static String quoted(String call) {
        return call.substring(call.indexOf('"') + 1, call.lastIndexOf('"'));
    }

    /** Answers what the last sign is answered, or the first one that is refused. */
    private String type(String text) {
        String answer = "";
        for (int i = 0; i < text.length() && !answer.startsWith("throws."); i++) {
            answer = answer("type", List.of((int) text.charAt(i)));
        }
        return answer;
    }

    private String outputText() {
        StringBuilder text = new StringBuilder();
        for (int index = 0; index < 100; index++) {
            String got = answer("outputAt", List.of(index));
            if (got.startsWith("throws.")) {
                return text.toString();
            }
            text.append(got.charAt(1));
        }
        return "without end";
    }

    private void count() {
        calls++;
        if (calls > MOST_CALLS) {
            throw new IllegalStateException("a test makes more than " + MOST_CALLS + " calls of an object");
        }
    }

    private static List<Integer> arguments(String text) {
        List<Integer> arguments = new ArrayList<>();
        for (String part : text.split(",")) {
            String argument = part.strip();
            if (argument.length() == 3 && argument.charAt(0) == '\'') {
                arguments.add((int) argument.charAt(1));
            } else if (!argument.isEmpty()) {
                arguments.add(Integer.parseInt(argument));
            }
        }
        return arguments;
    }
}
