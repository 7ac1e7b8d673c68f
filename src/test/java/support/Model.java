import java.util.ArrayDeque;
import java.util.ArrayList;
import java.util.Arrays;
import java.util.Comparator;
import java.util.Deque;
import java.util.HashMap;
import java.util.HashSet;
import java.util.List;
import java.util.Map;
import java.util.NoSuchElementException;
import java.util.Set;
import java.util.regex.Matcher;
import java.util.regex.Pattern;

/** A second way to do what the document says, slow and short, to compare the program with. */
final class Model {
    private static final String NUMBER = "[0-9]{1,3}";
    private static final String COMMAND = ("(pedestal|arrow [0-9][0-9]|statue [0-9] N|home [0-9][0-9]"
            + "|writ [0-9] N N(<N)?|block N [0-9]|pay N|hear N|night( N)?)").replace("N", NUMBER);
    static final Pattern SCRIPT = Pattern.compile(COMMAND + "(;" + COMMAND + ")*");

    private record Statue(int weight, int place, int home) {
        Statue to(int pedestal) {
            return new Statue(weight, pedestal, home);
        }

        boolean atHome() {
            return place == home;
        }
    }

    /** A cause of null is none. */
    private record Writ(int id, int statue, int last, int bail, boolean paid, Integer cause) {
        boolean hasCause(int writ) {
            return cause != null && cause == writ;
        }
    }

    private static final class State {
        private final List<Integer> arrows = new ArrayList<>();
        private final List<Statue> statues = new ArrayList<>();
        private final List<Writ> writs = new ArrayList<>();
        private final Map<Integer, Integer> store = new HashMap<>();
        private int nextId = 0;
        private int added = 0;
        private int treasury = 0;
        private int night = 0;
        private boolean heard = false;
        private int upheld = 0;
        private int dismissed = 0;
        private int lapsed = 0;

        State copy() {
            State copy = new State();
            copy.arrows.addAll(arrows);
            copy.statues.addAll(statues);
            copy.writs.addAll(writs);
            copy.store.putAll(store);
            copy.nextId = nextId;
            copy.added = added;
            copy.treasury = treasury;
            copy.night = night;
            copy.heard = heard;
            copy.upheld = upheld;
            copy.dismissed = dismissed;
            copy.lapsed = lapsed;
            return copy;
        }
    }

    private State state = new State();
    private State snapshot = null;
    private final Deque<State> past = new ArrayDeque<>();
    private String buffer = "";
    private String output = "";
    private Integer errorPosition = null;
    private Integer failedCommand = null;
    private char failureKind = 0;

    /** Answers a call in the form of Runs.answer. */
    String answer(String name, List<Integer> arguments) {
        State before = state.copy();
        try {
            Object got = call(name, arguments);
            if (isChange(name)) {
                past.addLast(before);
                if (past.size() > 8) {
                    past.removeFirst();
                }
            }
            return got instanceof Character ? "'" + got + "'" : got.toString();
        } catch (RuntimeException e) {
            state = before;
            return "throws." + e.getClass().getSimpleName();
        }
    }

    private static boolean isChange(String name) {
        return Set.of("addPedestal", "setArrow", "addStatue", "setHome", "issueWrit", "issueFollower", "addBlocks",
                "payBail", "hear", "passNights", "runScript").contains(name);
    }

    private Object call(String name, List<Integer> a) {
        return switch (name) {
            case "undo" -> undo();
            case "save" -> save();
            case "restore" -> restore();
            case "type" -> type(a.get(0));
            case "runScript" -> runScript();
            case "errorPosition" -> known(errorPosition);
            case "failedCommand" -> known(failedCommand);
            case "failureKind" -> failedCommand == null ? known(null) : (Object) failureKind;
            case "outputAt" -> output.charAt(inside(a.get(0), output.length()));
            case "renderStatue" -> renderStatue(a.get(0));
            case "renderWrit" -> renderWrit(writ(a.get(0)));
            case "isConsistent" -> true;
            default -> isChange(name) ? change(name, a) : read(name, a);
        };
    }

    private Object change(String name, List<Integer> a) {
        return switch (name) {
            case "addPedestal" -> addPedestal();
            case "setArrow" -> setArrow(a.get(0), a.get(1));
            case "addStatue" -> addStatue(a.get(0), a.get(1));
            case "setHome" -> setHome(a.get(0), a.get(1));
            case "issueWrit" -> issue(a.get(0), a.get(1), a.get(2), null);
            case "issueFollower" -> issue(a.get(0), a.get(1), a.get(2), a.get(3));
            case "addBlocks" -> addBlocks(a.get(0), a.get(1));
            case "payBail" -> payBail(a.get(0));
            case "hear" -> hear(a.get(0));
            case "passNights" -> passNights(between(a.get(0), 1, 50));
            default -> throw new AssertionError(name);
        };
    }

    private Object read(String name, List<Integer> a) {
        return switch (name) {
            case "pedestalCount" -> state.arrows.size();
            case "arrow" -> state.arrows.get(pedestal(a.get(0)));
            case "isFree" -> on(pedestal(a.get(0))) == null;
            case "statueOn" -> known(on(pedestal(a.get(0))));
            case "arrowAfter", "arrowAfterByDoubling" -> follow(pedestal(a.get(0)), between(a.get(1), 0, 9999));
            case "roundLength" -> roundLength(pedestal(a.get(0)));
            case "statueCount" -> state.statues.size();
            case "pedestalOf" -> statue(a.get(0)).place();
            case "home" -> statue(a.get(0)).home();
            case "weightOf" -> statue(a.get(0)).weight();
            case "isBound" -> bound(inside(a.get(0), state.statues.size()));
            case "isHome" -> statue(a.get(0)).atHome();
            case "statueByWeight" -> byWeight().get(rank(a.get(0), state.statues.size()));
            case "nightsUntilHome" -> nightsUntilHome(inside(a.get(0), state.statues.size()));
            case "meanWeight" -> state.statues.stream().mapToDouble(Statue::weight).sum() / people();
            case "homeShare" -> (float) state.statues.stream().filter(Statue::atHome).count() / (float) people();
            case "blocks" -> count(between(a.get(0), 1, 20));
            case "fewestBlocks", "fewestBlocksBySearch" -> bestWay(between(a.get(0), 1, 60)).length;
            case "marbleTotal", "marbleByAccounts" -> state.added;
            case "treasury" -> state.treasury;
            case "night" -> state.night;
            case "upheldTotal" -> state.upheld;
            case "dismissedTotal" -> state.dismissed;
            case "lapsedTotal" -> state.lapsed;
            default -> readWrits(name, a);
        };
    }

    private Object readWrits(String name, List<Integer> a) {
        return switch (name) {
            case "writCount" -> state.writs.size();
            case "writAt" -> state.writs.get(rank(a.get(0), state.writs.size())).id();
            case "statueOf" -> writ(a.get(0)).statue();
            case "lastNight" -> writ(a.get(0)).last();
            case "bail" -> writ(a.get(0)).bail();
            case "isPaid" -> writ(a.get(0)).paid();
            case "causeOf" -> known(writ(a.get(0)).cause());
            case "causeDepth" -> depth(writ(a.get(0)));
            case "followers" -> closure(writ(a.get(0)).id()).size() - 1;
            case "docketValue", "docketValueBySets" -> bestDocket(state.heard ? state.night + 1 : state.night);
            case "writByLastNight" -> byLastNight().get(rank(a.get(0), state.writs.size())).id();
            default -> throw new AssertionError(name);
        };
    }

    private int addPedestal() {
        allow(state.arrows.size() < 8);
        state.arrows.add(state.arrows.size());
        return state.arrows.size() - 1;
    }

    private int setArrow(int pedestal, int target) {
        pedestal(target);
        return state.arrows.set(pedestal(pedestal), target);
    }

    private int addStatue(int pedestal, int weight) {
        pedestal(pedestal);
        between(weight, 1, 99);
        allow(state.statues.size() < 6 && on(pedestal) == null);
        state.statues.add(new Statue(weight, pedestal, pedestal));
        return state.statues.size() - 1;
    }

    private int setHome(int statue, int pedestal) {
        Statue before = statue(statue);
        state.statues.set(statue, new Statue(before.weight(), before.place(), pedestal(pedestal)));
        return before.home();
    }

    private int issue(int statue, int nights, int bail, Integer cause) {
        statue(statue);
        between(nights, 0, 20);
        between(bail, 1, 60);
        if (cause != null) {
            writ(cause);
        }
        allow(state.writs.size() < 8);
        state.writs.add(new Writ(state.nextId, statue, state.night + nights, bail, false, cause));
        return state.nextId++;
    }

    private int addBlocks(int weight, int count) {
        between(weight, 1, 20);
        between(count, 1, 9);
        allow(count(weight) + count <= 99);
        state.added += weight * count;
        return state.store.merge(weight, count, Integer::sum);
    }

    private int payBail(int id) {
        Writ writ = writ(id);
        allow(!writ.paid());
        int[] way = bestWay(writ.bail());
        for (int weight : way) {
            state.store.merge(weight, -1, Integer::sum);
        }
        state.treasury += writ.bail();
        state.writs.replaceAll(w -> w.id() != id ? w
                : new Writ(id, w.statue(), w.last(), w.bail(), true, w.cause()));
        return way.length;
    }

    private char hear(int id) {
        Writ writ = writ(id);
        allow(!state.heard);
        state.heard = true;
        Statue statue = statue(writ.statue());
        if (statue.atHome()) {
            for (int other : closure(id)) {
                refund(writ(other));
                close(other);
                state.dismissed++;
            }
            return 'd';
        }
        if (on(statue.home()) == null) {
            state.statues.set(writ.statue(), statue.to(statue.home()));
        }
        close(id);
        state.upheld++;
        return 'u';
    }

    private int passNights(int nights) {
        int moves = 0;
        for (int i = 0; i < nights; i++) {
            state.night++;
            state.heard = false;
            for (Writ writ : List.copyOf(state.writs)) {
                if (writ.last() < state.night) {
                    refund(writ);
                    close(writ.id());
                    state.lapsed++;
                }
            }
            for (int index : byWeight()) {
                int target = state.arrows.get(statue(index).place());
                if (!bound(index) && on(target) == null) {
                    state.statues.set(index, statue(index).to(target));
                    moves++;
                }
            }
        }
        return moves;
    }

    private void refund(Writ writ) {
        if (writ.paid()) {
            state.treasury -= writ.bail();
            state.store.merge(1, writ.bail(), Integer::sum);
        }
    }

    private void close(int id) {
        state.writs.removeIf(w -> w.id() == id);
        state.writs.replaceAll(w -> !w.hasCause(id) ? w
                : new Writ(w.id(), w.statue(), w.last(), w.bail(), w.paid(), null));
    }

    private Set<Integer> closure(int id) {
        Set<Integer> found = new HashSet<>(Set.of(id));
        boolean grows = true;
        while (grows) {
            grows = false;
            for (Writ writ : state.writs) {
                grows |= writ.cause() != null && found.contains(writ.cause()) && found.add(writ.id());
            }
        }
        return found;
    }

    private int depth(Writ writ) {
        return writ.cause() == null ? 0 : 1 + depth(writ(writ.cause()));
    }

    /** Backward in time: a night goes to the dearest of the writs that can still have it. */
    private int bestDocket(int first) {
        List<Writ> rest = new ArrayList<>(state.writs);
        rest.sort(Comparator.comparingInt(Writ::bail).reversed());
        int value = 0;
        for (int night = state.night + 20; night >= first; night--) {
            for (int i = 0; i < rest.size(); i++) {
                if (rest.get(i).last() >= night) {
                    value += rest.remove(i).bail();
                    break;
                }
            }
        }
        return value;
    }

    private int nightsUntilHome(int statue) {
        State before = state.copy();
        try {
            for (int nights = 0; nights <= 50; nights++) {
                if (statue(statue).atHome()) {
                    return nights;
                }
                passNights(1);
            }
        } finally {
            state = before;
        }
        throw new NoSuchElementException();
    }

    /** The weights of the fewest blocks, the heaviest first, by sums that grow block by block. */
    private int[] bestWay(int amount) {
        Map<Integer, List<Integer>> best = new HashMap<>(Map.of(0, List.of()));
        for (int weight = 20; weight > 0; weight--) {
            Map<Integer, List<Integer>> next = new HashMap<>(best);
            for (Map.Entry<Integer, List<Integer>> way : best.entrySet()) {
                List<Integer> longer = new ArrayList<>(way.getValue());
                for (int taken = 1; taken <= Math.min(60, count(weight)); taken++) {
                    longer.add(weight);
                    int sum = way.getKey() + taken * weight;
                    if (sum <= amount) {
                        next.merge(sum, List.copyOf(longer), Model::better);
                    }
                }
            }
            best = next;
        }
        if (!best.containsKey(amount)) {
            throw new UnsupportedOperationException();
        }
        return best.get(amount).stream().mapToInt(Integer::intValue).toArray();
    }

    private static List<Integer> better(List<Integer> one, List<Integer> other) {
        if (one.size() != other.size()) {
            return one.size() < other.size() ? one : other;
        }
        // Both go down from the heaviest weight: the first difference tells who has more of the heavier one.
        int[] first = one.stream().mapToInt(Integer::intValue).toArray();
        int[] second = other.stream().mapToInt(Integer::intValue).toArray();
        return Arrays.compare(first, second) >= 0 ? one : other;
    }

    private int type(int character) {
        between(character, 32, 126);
        allow(buffer.length() < 60);
        buffer += (char) character;
        return buffer.length();
    }

    private int runScript() {
        String script = buffer;
        buffer = "";
        if (!SCRIPT.matcher(script).matches()) {
            errorPosition = firstWrong(script);
            throw new IllegalArgumentException();
        }
        String[] commands = script.split(";");
        for (int i = 0; i < commands.length; i++) {
            try {
                runCommand(commands[i]);
            } catch (RuntimeException e) {
                failedCommand = i;
                failureKind = kind(e);
                throw new IllegalStateException();
            }
        }
        return commands.length;
    }

    /** The length of the longest beginning that could still go on to a script. */
    static int firstWrong(String script) {
        for (int length = script.length(); length > 0; length--) {
            Matcher matcher = SCRIPT.matcher(script.substring(0, length));
            if (matcher.matches() || matcher.hitEnd()) {
                return length;
            }
        }
        return 0;
    }

    private void runCommand(String command) {
        String[] words = command.split("[ <]");
        List<Integer> a = new ArrayList<>();
        for (int i = 1; i < words.length; i++) {
            if (words[0].equals("arrow") || words[0].equals("home")) {
                a.add(words[i].charAt(0) - '0');
                a.add(words[i].charAt(1) - '0');
            } else {
                a.add(Integer.parseInt(words[i]));
            }
        }
        if (command.equals("night")) {
            a.add(1);
        }
        Map<String, String> names = Map.of("pedestal", "addPedestal", "arrow", "setArrow", "statue", "addStatue",
                "home", "setHome", "writ", "issueWrit", "block", "addBlocks", "pay", "payBail", "hear", "hear",
                "night", "passNights");
        change(command.indexOf('<') > 0 ? "issueFollower" : names.get(words[0]), a);
    }

    private static char kind(RuntimeException e) {
        return switch (e.getClass().getSimpleName()) {
            case "IndexOutOfBoundsException" -> 'i';
            case "IllegalArgumentException" -> 'a';
            case "IllegalStateException" -> 's';
            case "NoSuchElementException" -> 'e';
            case "UnsupportedOperationException" -> 'u';
            default -> throw new AssertionError(e);
        };
    }

    private int renderStatue(int index) {
        Statue statue = statue(index);
        output = index + "@" + statue.place() + ">" + statue.home() + " " + statue.weight() + "kg"
                + (bound(index) ? "!" : "");
        return output.length();
    }

    private int renderWrit(Writ writ) {
        output = writ.id() + ":" + writ.statue() + (writ.cause() == null ? "" : "<" + writ.cause()) + "#"
                + writ.last() + "$" + writ.bail() + (writ.paid() ? "+" : "");
        return output.length();
    }

    private int undo() {
        state = past.removeLast();
        return past.size();
    }

    private int save() {
        snapshot = state.copy();
        return state.statues.size();
    }

    private int restore() {
        allow(snapshot != null);
        state = snapshot.copy();
        past.clear();
        return state.statues.size();
    }

    private Integer on(int pedestal) {
        for (int i = 0; i < state.statues.size(); i++) {
            if (state.statues.get(i).place() == pedestal) {
                return i;
            }
        }
        return null;
    }

    private boolean bound(int statue) {
        return state.writs.stream().anyMatch(w -> w.statue() == statue && !w.paid());
    }

    private List<Integer> byWeight() {
        List<Integer> order = new ArrayList<>();
        for (int i = 0; i < state.statues.size(); i++) {
            order.add(i);
        }
        order.sort(Comparator.comparingInt((Integer i) -> -state.statues.get(i).weight()).thenComparingInt(i -> i));
        return order;
    }

    private List<Writ> byLastNight() {
        return state.writs.stream().sorted(Comparator.comparingInt(Writ::last)
                .thenComparing(Comparator.comparingInt(Writ::bail).reversed()).thenComparingInt(Writ::id)).toList();
    }

    private int follow(int pedestal, int steps) {
        int at = pedestal;
        for (int i = 0; i < steps; i++) {
            at = state.arrows.get(at);
        }
        return at;
    }

    private int roundLength(int pedestal) {
        Set<Integer> round = new HashSet<>();
        for (int at = follow(pedestal, 100); round.add(at); at = state.arrows.get(at)) {
            continue;
        }
        return round.size();
    }

    private int count(int weight) {
        return state.store.getOrDefault(weight, 0);
    }

    private double people() {
        if (state.statues.isEmpty()) {
            throw new ArithmeticException();
        }
        return state.statues.size();
    }

    private int pedestal(int index) {
        return inside(index, state.arrows.size());
    }

    private Statue statue(int index) {
        return state.statues.get(inside(index, state.statues.size()));
    }

    private Writ writ(int id) {
        return state.writs.stream().filter(w -> w.id() == id).findFirst().orElseThrow();
    }

    private static int inside(int index, int size) {
        if (index < 0 || index >= size) {
            throw new IndexOutOfBoundsException();
        }
        return index;
    }

    private static int rank(int index, int size) {
        if (index < 0 || index >= size) {
            throw new NoSuchElementException();
        }
        return index;
    }

    private static int between(int number, int least, int most) {
        if (number < least || number > most) {
            throw new IllegalArgumentException();
        }
        return number;
    }

    private static void allow(boolean allowed) {
        if (!allowed) {
            throw new IllegalStateException();
        }
    }

    private static int known(Integer number) {
        if (number == null) {
            throw new NoSuchElementException();
        }
        return number;
    }
}
