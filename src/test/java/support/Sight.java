import java.util.List;

/** All that can be seen of an object without changing it, a call and its answer a line. */
final class Sight {
    private static final String[] WITHOUT_ARGUMENTS = {"pedestalCount", "statueCount", "writCount", "night",
        "upheldTotal", "dismissedTotal", "lapsedTotal", "treasury", "marbleTotal", "marbleByAccounts", "docketValue",
        "docketValueBySets"};
    private static final String[] OF_PEDESTALS = {"arrow", "statueOn"};
    private static final String[] OF_STATUES = {"pedestalOf", "home", "weightOf", "isBound", "statueByWeight"};
    private static final String[] OF_WRITS = {"statueOf", "lastNight", "bail", "isPaid", "causeOf"};
    private static final String[] OF_SCRIPTS = {"errorPosition", "failedCommand", "failureKind"};

    private final Desk desk;
    private final StringBuilder seen = new StringBuilder();

    private Sight(Desk desk) {
        this.desk = desk;
    }

    static String of(Desk desk) {
        Sight sight = new Sight(desk);
        for (String name : WITHOUT_ARGUMENTS) {
            sight.see(name);
        }
        sight.seeAll(OF_PEDESTALS, number(desk, "pedestalCount"));
        sight.seeAll(OF_STATUES, number(desk, "statueCount"));
        sight.seeWrits(number(desk, "writCount"));
        for (int weight = 1; weight <= 20; weight++) {
            sight.see("blocks", weight);
        }
        sight.seen.append(desk.answer("text"));
        return sight.seen.toString();
    }

    /** What scripts that go wrong leave behind. */
    static String ofScripts(Desk desk) {
        Sight sight = new Sight(desk);
        for (String name : OF_SCRIPTS) {
            sight.see(name);
        }
        return sight.seen.toString();
    }

    private void seeAll(String[] names, int count) {
        for (String name : names) {
            for (int index = 0; index < count; index++) {
                see(name, index);
            }
        }
    }

    private void seeWrits(int count) {
        for (int position = 0; position < count; position++) {
            see("writByLastNight", position);
            int writ = Integer.parseInt(see("writAt", position));
            for (String name : OF_WRITS) {
                see(name, writ);
            }
        }
    }

    private String see(String name, Integer... arguments) {
        String answer = desk.answer(name, List.of(arguments));
        seen.append(name).append(List.of(arguments)).append(" = ").append(answer).append('\n');
        return answer;
    }

    private static int number(Desk desk, String name) {
        return Integer.parseInt(desk.answer(name, List.of()));
    }
}
