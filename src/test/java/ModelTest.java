import java.lang.reflect.Method;
import java.lang.reflect.Modifier;
import java.util.ArrayList;
import java.util.Comparator;
import java.util.List;

/** All promises: runs of mixed calls, the same each time, answered by the program and by the model. */
public final class ModelTest {
    private static final int RUNS = 2000;
    private static final int CALLS = 500;
    private static final int LONGEST_SCRIPT = 60;
    private static final String[] OFTEN = {"setArrow", "setArrow", "addStatue", "setHome", "setHome", "issueWrit",
        "issueWrit", "issueFollower", "issueFollower", "addBlocks", "addBlocks", "payBail", "payBail", "hear",
        "passNights", "passNights", "nightsUntilHome", "docketValue", "docketValueBySets", "fewestBlocks",
        "fewestBlocksBySearch", "writByLastNight", "renderWrit", "renderStatue", "outputAt"};
    private static final String[] COMMANDS = {"pedestal", "arrow DD", "statue D N", "home DD", "writ D S B",
        "writ D S B", "writ D S B<W", "writ D S B<W", "block K D", "pay W", "pay W", "hear W", "night", "night S"};

    private final List<String> anyCall = new ArrayList<>();
    private long seed = 20261119;
    private StatueChancery program;
    private Model model;
    private List<String> calls;

    public static void main(String[] args) {
        new ModelTest().compareAll();
    }

    private void compareAll() {
        for (Method method : StatueChancery.class.getDeclaredMethods()) {
            if (Modifier.isPublic(method.getModifiers())) {
                anyCall.add(method.getName());
            }
        }
        anyCall.sort(Comparator.naturalOrder());
        for (int run = 0; run < RUNS; run++) {
            program = new StatueChancery();
            model = new Model();
            calls = new ArrayList<>();
            if (!compareRun()) {
                System.out.println("run " + run + ":\n" + String.join("\n", calls));
                System.exit(1);
            }
        }
    }

    private boolean compareRun() {
        boolean agrees = below(8) == 0 || setsUp();
        while (agrees && calls.size() < CALLS) {
            int kind = below(100);
            if (kind < 3 && calls.size() < CALLS - LONGEST_SCRIPT) {
                agrees = agreesOnScript();
            } else if (kind < 70) {
                agrees = agreesOn(OFTEN[below(OFTEN.length)]);
            } else if (kind < 75) {
                agrees = agreesOn("undo");
            } else {
                String name = anyCall.get(below(anyCall.size()));
                agrees = spoilsMuch(name) && below(5) > 0 || agreesOn(name);
            }
        }
        return agrees;
    }

    /** A sign typed alone spoils the next script, and restore gives up what stands. */
    private static boolean spoilsMuch(String name) {
        return name.equals("type") || name.equals("restore");
    }

    private boolean setsUp() {
        boolean agrees = true;
        for (int pedestals = 2 + below(7); pedestals > 0; pedestals--) {
            agrees &= agreesOn("addPedestal");
        }
        for (int arrows = below(12); arrows > 0; arrows--) {
            agrees &= agreesOn("setArrow");
        }
        for (int statues = 1 + below(8); statues > 0; statues--) {
            agrees &= agreesOn("addStatue");
        }
        for (int blocks = below(12); blocks > 0; blocks--) {
            agrees &= agreesOn("addBlocks");
        }
        return agrees;
    }

    private boolean agreesOnScript() {
        String script = script();
        for (int i = 0; i < script.length(); i++) {
            if (!agreesOn("type", List.of((int) script.charAt(i)))) {
                return false;
            }
        }
        return agreesOn("runScript");
    }

    private boolean agreesOn(String name) {
        List<Integer> arguments = new ArrayList<>();
        for (int i = 0; i < Runs.method(name).getParameterCount(); i++) {
            arguments.add(below(60) == 0 ? odd() : argument(name, i));
        }
        return agreesOn(name, arguments);
    }

    private boolean agreesOn(String name, List<Integer> arguments) {
        String got = Runs.answer(program, name, arguments);
        String due = model.answer(name, arguments);
        calls.add(name + arguments + " = " + got + (got.equals(due) ? "" : " where the model says " + due));
        return got.equals(due);
    }

    private int odd() {
        int[] odd = {-1, Integer.MIN_VALUE, Integer.MAX_VALUE, 0, 8, 6, 21, 61, 100, 10000, -60, 51};
        return odd[below(odd.length)];
    }

    private int argument(String name, int index) {
        switch (name) {
            case "type":
                return 32 + below(95);
            case "addStatue":
                return index == 0 ? pedestal() : 1 + below(9) * (1 + below(11));
            case "issueWrit":
            case "issueFollower":
                return new int[] {statue(), below(below(3) == 0 ? 21 : 5), 1 + below(60), writ()}[index];
            case "addBlocks":
                return index == 0 ? 1 + below(20) : 1 + below(9);
            case "blocks":
                return 1 + below(20);
            case "fewestBlocks":
            case "fewestBlocksBySearch":
                return 1 + below(60);
            case "passNights":
                return 1 + below(below(9) == 0 ? 50 : 2);
            case "arrowAfter":
            case "arrowAfterByDoubling":
                return index == 0 ? pedestal() : below(below(2) == 0 ? 10000 : 20);
            case "outputAt":
                return below(13);
            case "setArrow":
            case "arrow":
            case "isFree":
            case "statueOn":
            case "roundLength":
                return pedestal();
            case "setHome":
                return index == 0 ? statue() : pedestal();
            case "statueByWeight":
            case "writByLastNight":
            case "writAt":
                return below(8);
            default:
                return isOfAWrit(name) ? writ() : statue();
        }
    }

    private static boolean isOfAWrit(String name) {
        return List.of("payBail", "hear", "statueOf", "lastNight", "bail", "isPaid", "causeOf", "causeDepth",
                "followers", "renderWrit").contains(name);
    }

    private int pedestal() {
        return below(program.pedestalCount() + (below(20) == 0 ? 2 : 0));
    }

    private int statue() {
        return below(program.statueCount() + (below(20) == 0 ? 2 : 0));
    }

    private int writ() {
        return program.writCount() == 0 || below(20) == 0 ? below(40) : program.writAt(below(program.writCount()));
    }

    private String script() {
        StringBuilder script = new StringBuilder(command());
        for (int more = below(6); more > 0; more--) {
            String command = command();
            if (script.length() + 1 + command.length() <= LONGEST_SCRIPT || below(30) == 0) {
                script.append(';').append(command);
            }
        }
        if (below(4) == 0) {
            spoil(script);
        }
        return script.toString();
    }

    private void spoil(StringBuilder script) {
        String signs = "0123456789 ;<abdeghiklmnoprstuwyx[]#%-";
        int at = below(script.length());
        char sign = signs.charAt(below(signs.length()));
        switch (below(4)) {
            case 0 -> script.setLength(at);
            case 1 -> script.setCharAt(at, sign);
            case 2 -> script.insert(at, sign);
            default -> script.deleteCharAt(at);
        }
    }

    private String command() {
        StringBuilder command = new StringBuilder();
        for (char sign : COMMANDS[below(COMMANDS.length)].toCharArray()) {
            switch (sign) {
                case 'D' -> command.append(below(20) == 0 ? below(10) : below(4));
                case 'N' -> command.append(below(20) == 0 ? below(1000) : 1 + below(99));
                case 'S' -> command.append(below(20) == 0 ? below(1000) : 1 + below(6));
                case 'B' -> command.append(below(20) == 0 ? below(1000) : 1 + below(60));
                case 'K' -> command.append(below(20) == 0 ? below(1000) : 1 + below(20));
                case 'W' -> command.append(writ());
                default -> command.append(sign);
            }
        }
        return command.toString();
    }

    /** Returns a number from 0 to the bound - 1, or 0 if there is none. */
    private int below(int bound) {
        seed = seed * 6364136223846793005L + 1442695040888963407L;
        return bound < 1 ? 0 : (int) Long.remainderUnsigned(seed >>> 33, bound);
    }
}
