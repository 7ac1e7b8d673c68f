import java.lang.reflect.Method;
import java.lang.reflect.Modifier;
import java.util.ArrayList;
import java.util.Comparator;
import java.util.List;

/** All promises: runs of mixed calls, the same each time, answered by the program and by the model. */
public final class ModelTest {
    private static final int RUNS = 2000;
    private static final int CALLS = 500;
    private static final String[] CHANGES = {"addPedestal", "setArrow", "setArrow", "addStatue", "addStatue", "setHome",
        "issueWrit", "issueWrit", "issueFollower", "issueFollower", "addBlocks", "addBlocks", "payBail", "payBail",
        "hear", "passNights", "undo", "save", "restore"};
    private static final String[] COMMANDS = {"pedestal", "arrow DD", "statue D N", "home DD", "writ D S B",
        "writ D S B<W", "writ D S B<W", "block K D", "pay W", "hear W", "night", "night S"};

    private final List<Method> methods = new ArrayList<>(List.of(StatueChancery.class.getDeclaredMethods()));
    private long seed = 20261119;
    private int latestWrit = 0;

    public static void main(String[] args) {
        new ModelTest().compareAll();
    }

    private void compareAll() {
        methods.removeIf(method -> !Modifier.isPublic(method.getModifiers()));
        methods.sort(Comparator.comparing(Method::getName));
        for (int run = 0; run < RUNS; run++) {
            List<String> calls = new ArrayList<>();
            if (!compare(calls)) {
                System.out.println("run " + run + ": " + String.join("\n", calls));
                System.exit(1);
            }
        }
    }

    /** Returns whether the two agree to the end; the calls and answers of the run are noted in the list. */
    private boolean compare(List<String> calls) {
        StatueChancery program = new StatueChancery();
        Model model = new Model();
        latestWrit = 0;
        boolean hasOneHearingNight = below(8) == 0;
        while (calls.size() < CALLS) {
            int kind = below(20);
            if (kind == 0 && calls.size() < CALLS - 61) {
                for (char character : script().toCharArray()) {
                    if (!same(program, model, "type", List.of((int) character), calls)) {
                        return false;
                    }
                }
                if (!same(program, model, "runScript", List.of(), calls)) {
                    return false;
                }
            } else {
                String name = kind < 12 ? CHANGES[below(CHANGES.length)] : methods.get(below(methods.size())).getName();
                boolean skipped = name.equals("passNights") && hasOneHearingNight;
                if (!skipped && !same(program, model, name, arguments(name), calls)) {
                    return false;
                }
            }
        }
        return true;
    }

    private boolean same(StatueChancery program, Model model, String name, List<Integer> arguments,
            List<String> calls) {
        String got = Runs.answer(program, name, arguments);
        String due = model.answer(name, arguments);
        calls.add(name + arguments + " = " + got + (got.equals(due) ? "" : " where the model says " + due));
        if (name.startsWith("issue") && !got.startsWith("throws")) {
            latestWrit = Integer.parseInt(got);
        }
        return got.equals(due);
    }

    private List<Integer> arguments(String name) {
        List<Integer> arguments = new ArrayList<>();
        for (int i = 0; i < Runs.method(name).getParameterCount(); i++) {
            arguments.add(below(60) == 0 ? odd() : argument(name, i));
        }
        return arguments;
    }

    private int odd() {
        int[] odd = {-1, Integer.MIN_VALUE, Integer.MAX_VALUE, 0, 8, 6, 21, 61, 100, 10000, -60, 51};
        return odd[below(odd.length)];
    }

    private int argument(String name, int index) {
        switch (name) {
            case "type":
                return 32 + below(95);
            case "addStatue":
                return index == 0 ? below(8) : 1 + below(9) * (1 + below(11));
            case "issueWrit":
            case "issueFollower":
                return new int[] {below(6), below(below(3) == 0 ? 21 : 4), 1 + below(60), writ()}[index];
            case "addBlocks":
                return index == 0 ? 1 + below(20) : 1 + below(9);
            case "blocks":
                return 1 + below(20);
            case "fewestBlocks":
            case "fewestBlocksBySearch":
                return 1 + below(60);
            case "passNights":
                return 1 + below(below(6) == 0 ? 50 : 3);
            case "arrowAfter":
            case "arrowAfterByDoubling":
                return index == 0 ? below(8) : below(below(2) == 0 ? 10000 : 20);
            case "outputAt":
                return below(13);
            case "setArrow":
            case "arrow":
            case "isFree":
            case "statueOn":
            case "roundLength":
                return below(8);
            case "setHome":
                return index == 0 ? below(6) : below(8);
            default:
                return isOfAWrit(name) ? writ() : below(6);
        }
    }

    private static boolean isOfAWrit(String name) {
        return List.of("payBail", "hear", "statueOf", "lastNight", "bail", "isPaid", "causeOf", "causeDepth",
                "followers", "renderWrit").contains(name);
    }

    private int writ() {
        return Math.max(0, latestWrit + 1 - below(8));
    }

    private String script() {
        StringBuilder script = new StringBuilder(command());
        for (int more = below(6); more > 0; more--) {
            script.append(';').append(command());
        }
        if (below(3) == 0) {
            spoil(script);
        }
        return script.toString();
    }

    private void spoil(StringBuilder script) {
        String signs = "0123456789 ;<abdeghiklmnoprstuwyx[]#%-";
        int at = below(script.length());
        char sign = signs.charAt(below(signs.length()));
        switch (below(4)) {
            case 0 -> script.setLength(at);
            case 1 -> script.setCharAt(at, sign);
            case 2 -> script.insert(at, sign);
            default -> script.deleteCharAt(at);
        }
    }

    private String command() {
        StringBuilder command = new StringBuilder();
        for (char sign : COMMANDS[below(COMMANDS.length)].toCharArray()) {
            switch (sign) {
                case 'D' -> command.append(below(20) == 0 ? below(10) : below(4));
                case 'N' -> command.append(below(20) == 0 ? below(1000) : 1 + below(99));
                case 'S' -> command.append(below(20) == 0 ? below(1000) : below(6));
                case 'B' -> command.append(below(20) == 0 ? below(1000) : 1 + below(60));
                case 'K' -> command.append(below(20) == 0 ? below(1000) : 1 + below(20));
                case 'W' -> command.append(writ());
                default -> command.append(sign);
            }
        }
        return command.toString();
    }

    private int below(int bound) {
        seed = seed * 6364136223846793005L + 1442695040888963407L;
        return (int) Long.remainderUnsigned(seed >>> 33, bound);
    }
}
