/** Promises 4, 5, 19 to 26, 49 and 50: a test for each edge that the document names, titled with its promise. */
public final class StatueEdgesTest {
    private static final String SIX_STATUES = Starts.EIGHT_PEDESTALS + """
            addStatue(0, 10)
            addStatue(1, 10)
            addStatue(2, 10)
            addStatue(3, 10)
            addStatue(4, 10)
            addStatue(5, 10)
            """;
    private static final String LONE_WALKER = Starts.STATUE + "setArrow(0, 1)\nsetArrow(1, 2)\nsetArrow(2, 0)\n";
    /** A crowd on a round, bound for a while, so that statue 5 comes to pedestal 0 in the 51st night only. */
    private static final String HOME_IN_51_NIGHTS = Starts.EIGHT_PEDESTALS + """
            setArrow(0, 2)
            setArrow(1, 2)
            setArrow(2, 3)
            setArrow(3, 4)
            setArrow(4, 5)
            setArrow(5, 6)
            setArrow(6, 7)
            setArrow(7, 0)
            addStatue(2, 94)
            addStatue(5, 62)
            addStatue(7, 55)
            addStatue(4, 90)
            addStatue(3, 92)
            addStatue(1, 98)
            issueWrit(2, 20, 1)
            issueWrit(2, 20, 1)
            issueWrit(4, 16, 1)
            setHome(5, 0)
            """;

    private final Runs runs = new Runs();

    public static void main(String[] args) {
        StatueEdgesTest test = new StatueEdgesTest();
        test.addStatue();
        test.addStatueWrongly();
        test.addStatueWithSeveralFaults();
        test.setHome();
        test.setHomeWrongly();
        test.statueCount();
        test.noSuchStatue();
        test.pedestalOfAndHome();
        test.weightOf();
        test.isBound();
        test.isHome();
        test.statueByWeight();
        test.nightsUntilHome();
        test.nightsUntilHomeAtItsLimit();
        test.meanWeight();
        test.homeShare();
        test.runs.end();
    }

    private void addStatue() {
        runs.run("P4: the first statue has the index 0", Starts.FOUR_PEDESTALS, "addStatue(3, 5) = 0");
        runs.run("P4: the sixth statue is added", SIX_STATUES, "undo()", "addStatue(5, 5) = 5", "statueCount() = 6");
        runs.run("P4: the least weight", Starts.FOUR_PEDESTALS, "addStatue(0, 1) = 0", "weightOf(0) = 1");
        runs.run("P4: the greatest weight", Starts.FOUR_PEDESTALS, "addStatue(0, 99) = 0", "weightOf(0) = 99");
        runs.run("P4: the first pedestal", Starts.FOUR_PEDESTALS, "addStatue(0, 5) = 0", "pedestalOf(0) = 0");
        runs.run("P4: the last pedestal", Starts.EIGHT_PEDESTALS, "addStatue(7, 5) = 0", "pedestalOf(0) = 7");
        runs.run("P4: its home is where it was put first", Starts.FOUR_PEDESTALS, "addStatue(2, 5) = 0",
                "home(0) = 2", "isHome(0) = true");
        runs.run("P4: it is not bound", Starts.RICH, "addStatue(2, 5) = 3", "isBound(3) = false");
        runs.run("P4: a pedestal that a statue has left", LONE_WALKER, "passNights(1) = 1", "addStatue(0, 5) = 1");
        runs.run("P4: a home on which its statue does not stand", Starts.STATUE, "setHome(0, 3)",
                "addStatue(3, 5) = 1", "home(0) = 3", "home(1) = 3");
        runs.run("P4: a statue is added where one was undone", SIX_STATUES, "undo() = 7", "addStatue(7, 5) = 5",
                "addStatue(6, 5) = throws.IllegalStateException");
    }

    private void addStatueWrongly() {
        runs.refusesOutside("P4: no such pedestal", Starts.RICH, "addStatue(#, 5)", 0, 3, Starts.BOUNDS);
        runs.refusesOutside("P4: a pedestal beyond eight", Starts.EIGHT_PEDESTALS, "addStatue(#, 5)", 0, 7,
                Starts.BOUNDS);
        runs.refusesOutside("P4: too light or too heavy", Starts.RICH, "addStatue(2, #)", 1, 99, Starts.ARGUMENT);
        runs.changesNothing("P4: without pedestals", "", "addStatue(0, 5) = throws.IndexOutOfBoundsException");
        runs.changesNothing("P4: a seventh statue", SIX_STATUES, "addStatue(6, 5) = throws.IllegalStateException");
        runs.changesNothing("P4: a seventh statue beside all else", Starts.FULL,
                "addStatue(6, 5) = throws.IllegalStateException");
        runs.changesNothing("P4: where a statue stands", Starts.RICH, "addStatue(1, 5) = throws.IllegalStateException");
        runs.changesNothing("P4: where statue 0 stands", Starts.STATUE,
                "addStatue(0, 5) = throws.IllegalStateException");
        runs.changesNothing("P4: where a statue has come to", LONE_WALKER + "passNights(1) = 1\n",
                "addStatue(1, 5) = throws.IllegalStateException");
    }

    private void addStatueWithSeveralFaults() {
        runs.changesNothing("P4: no such pedestal comes before the weight", Starts.RICH,
                "addStatue(4, 0) = throws.IndexOutOfBoundsException");
        runs.changesNothing("P4: no such pedestal comes before the six statues", Starts.FULL,
                "addStatue(8, 5) = throws.IndexOutOfBoundsException");
        runs.changesNothing("P4: no such pedestal comes before both", Starts.FULL,
                "addStatue(-1, 100) = throws.IndexOutOfBoundsException");
        runs.changesNothing("P4: the weight comes before the six statues", Starts.FULL,
                "addStatue(6, 100) = throws.IllegalArgumentException");
        runs.changesNothing("P4: the weight comes before the statue on the pedestal", Starts.RICH,
                "addStatue(0, 0) = throws.IllegalArgumentException");
        runs.changesNothing("P4: six statues, and one on the pedestal", Starts.FULL,
                "addStatue(0, 5) = throws.IllegalStateException");
    }

    private void setHome() {
        runs.run("P5: the last statue and the last pedestal", SIX_STATUES, "setHome(5, 7) = 5", "home(5) = 7");
        runs.run("P5: the first statue and the first pedestal", SIX_STATUES, "setHome(0, 7) = 0", "setHome(0, 0) = 7",
                "home(0) = 0");
        runs.run("P5: the same home again", SIX_STATUES, "setHome(3, 3) = 3", "home(3) = 3");
        runs.run("P5: a pedestal on which another one stands", SIX_STATUES, "setHome(3, 2) = 3", "home(3) = 2",
                "pedestalOf(3) = 3", "pedestalOf(2) = 2");
        runs.run("P5: the home of another one", SIX_STATUES, "setHome(3, 7)", "setHome(4, 7) = 4", "home(3) = 7",
                "home(4) = 7");
        runs.run("P5: no statue moves", SIX_STATUES, "setHome(0, 7)", "pedestalOf(0) = 0", "isFree(7) = true");
    }

    private void setHomeWrongly() {
        runs.refusesOutside("P5: no such statue", Starts.RICH, "setHome(#, 0)", 0, 2, Starts.BOUNDS);
        runs.refusesOutside("P5: no such pedestal", Starts.RICH, "setHome(0, #)", 0, 3, Starts.BOUNDS);
        runs.refusesOutside("P5: neither", Starts.RICH, "setHome(#, #)", 0, 3, Starts.BOUNDS);
        runs.refusesOutside("P5: a statue beyond six", Starts.FULL, "setHome(#, 0)", 0, 5, Starts.BOUNDS);
        runs.refusesOutside("P5: a pedestal beyond eight", Starts.FULL, "setHome(0, #)", 0, 7, Starts.BOUNDS);
        runs.changesNothing("P5: without statues", Starts.FOUR_PEDESTALS,
                "setHome(0, 0) = throws.IndexOutOfBoundsException");
        runs.changesNothing("P5: without anything", "", "setHome(0, 0) = throws.IndexOutOfBoundsException");
    }

    private void statueCount() {
        runs.changesNothing("P19: none", Starts.FOUR_PEDESTALS, "statueCount() = 0");
        runs.changesNothing("P19: six", SIX_STATUES, "statueCount() = 6");
    }

    private void noSuchStatue() {
        for (String call : new String[] {"P20: pedestalOf", "P21: home", "P22: weightOf", "P23: isBound",
                "P24: isHome", "P26: nightsUntilHome", "P52: renderStatue"}) {
            String name = call.substring(5);
            runs.refusesOutside(call + ", no such statue", Starts.RICH, name + "(#)", 0, 2, Starts.BOUNDS);
            runs.refusesOutside(call + ", a statue beyond six", Starts.FULL, name + "(#)", 0, 5, Starts.BOUNDS);
            runs.changesNothing(call + " without statues", Starts.FOUR_PEDESTALS,
                    name + "(0) = throws.IndexOutOfBoundsException");
            runs.changesNothing(call + " where the last statue was undone", Starts.STATUE + "undo()\n",
                    name + "(0) = throws.IndexOutOfBoundsException");
        }
    }

    private void pedestalOfAndHome() {
        runs.changesNothing("P20: the first statue", Starts.RICH, "pedestalOf(0) = 0");
        runs.changesNothing("P20: the last statue", Starts.RICH, "pedestalOf(2) = 3");
        runs.changesNothing("P20: the sixth statue", SIX_STATUES, "pedestalOf(5) = 5");
        runs.run("P20: round a round and back", LONE_WALKER, "passNights(3) = 3", "pedestalOf(0) = 0",
                "passNights(2) = 2", "pedestalOf(0) = 2");
        runs.changesNothing("P21: where it was put first", Starts.RICH, "home(1) = 1");
        runs.changesNothing("P21: where another home was given", Starts.RICH, "home(2) = 0");
        runs.run("P21: a move leaves it as it is", LONE_WALKER, "passNights(1)", "home(0) = 0");
    }

    private void weightOf() {
        runs.changesNothing("P22: the first statue", Starts.RICH, "weightOf(0) = 30");
        runs.changesNothing("P22: the last statue", Starts.RICH, "weightOf(2) = 50");
        runs.changesNothing("P22: the sixth statue", SIX_STATUES, "weightOf(5) = 10");
    }

    private void isBound() {
        runs.changesNothing("P23: a writ that is paid", Starts.RICH, "isBound(0) = false");
        runs.changesNothing("P23: a writ that is not paid", Starts.RICH, "isBound(1) = true");
        runs.changesNothing("P23: no writ at all", Starts.STATUE, "isBound(0) = false");
        runs.changesNothing("P23: another one's writs", Starts.FULL, "isBound(1) = false");
        runs.run("P23: one of two writs is paid", Starts.RICH, "issueWrit(0, 9, 5) = 4", "isBound(0) = true",
                "payBail(4)", "isBound(0) = false");
        runs.run("P23: on the last night and behind it", Starts.STATUE, "issueWrit(0, 1, 5)", "passNights(1)",
                "isBound(0) = true", "passNights(1)", "isBound(0) = false");
        runs.run("P23: a writ that was heard", Starts.STATUE, "issueWrit(0, 1, 5)", "hear(0)", "isBound(0) = false");
    }

    private void isHome() {
        runs.changesNothing("P24: it stands there", Starts.RICH, "isHome(0) = true");
        runs.changesNothing("P24: it does not", Starts.RICH, "isHome(2) = false");
        runs.run("P24: round a round and back", LONE_WALKER, "passNights(2)", "isHome(0) = false", "passNights(1)",
                "isHome(0) = true");
    }

    private void statueByWeight() {
        runs.refusesOutside("P25: no such rank", Starts.RICH, "statueByWeight(#)", 0, 2, Starts.ELEMENT);
        runs.refusesOutside("P25: a rank beyond six", Starts.FULL, "statueByWeight(#)", 0, 5, Starts.ELEMENT);
        runs.changesNothing("P25: without statues", Starts.FOUR_PEDESTALS,
                "statueByWeight(0) = throws.NoSuchElementException");
        runs.changesNothing("P25: the first rank", Starts.RICH, "statueByWeight(0) = 2");
        runs.changesNothing("P25: of equal weights the lower index comes first", Starts.RICH,
                "statueByWeight(1) = 0");
        runs.changesNothing("P25: the last rank", Starts.RICH, "statueByWeight(2) = 1");
        runs.run("P25: six of equal weights", SIX_STATUES, "statueByWeight(0) = 0", "statueByWeight(3) = 3",
                "statueByWeight(5) = 5");
        runs.run("P25: each one heavier than the one before", Starts.FOUR_PEDESTALS, "addStatue(0, 1)",
                "addStatue(1, 2)", "addStatue(2, 98)", "addStatue(3, 99)", "statueByWeight(0) = 3",
                "statueByWeight(1) = 2", "statueByWeight(2) = 1", "statueByWeight(3) = 0");
    }

    private void nightsUntilHome() {
        runs.changesNothing("P26: 0 if it stands there now", Starts.RICH, "nightsUntilHome(0) = 0");
        runs.changesNothing("P26: a statue that an arrow to its own pedestal holds", Starts.RICH,
                "nightsUntilHome(2) = throws.NoSuchElementException");
        runs.changesNothing("P26: one night", LONE_WALKER + "setHome(0, 1)\n", "nightsUntilHome(0) = 1");
        runs.changesNothing("P26: nearly the whole round", LONE_WALKER + "passNights(1)\n", "nightsUntilHome(0) = 2");
        runs.changesNothing("P26: a home that is not on the round", LONE_WALKER + "setHome(0, 3)\n",
                "nightsUntilHome(0) = throws.NoSuchElementException");
        runs.changesNothing("P26: a home on which another one stays", LONE_WALKER + """
                addStatue(3, 5)
                setArrow(2, 3)
                setHome(0, 3)
                """, "nightsUntilHome(0) = throws.NoSuchElementException");
        runs.changesNothing("P26: bound on its last night, free on the night behind it", LONE_WALKER + """
                issueWrit(0, 20, 5)
                setHome(0, 1)
                """, "nightsUntilHome(0) = 21");
        runs.changesNothing("P26: bound on its last night, which is tonight", LONE_WALKER + """
                issueWrit(0, 0, 5)
                setHome(0, 1)
                """, "nightsUntilHome(0) = 1");
        runs.run("P26: asked twice", HOME_IN_51_NIGHTS, "passNights(9)", "nightsUntilHome(5) = 42",
                "nightsUntilHome(5) = 42");
    }

    private void nightsUntilHomeAtItsLimit() {
        runs.changesNothing("P26: the 51st night is too late", HOME_IN_51_NIGHTS,
                "nightsUntilHome(5) = throws.NoSuchElementException");
        runs.changesNothing("P26: the 50th night is not", HOME_IN_51_NIGHTS + "passNights(1)\n",
                "nightsUntilHome(5) = 50");
        runs.changesNothing("P26: the 49th night", HOME_IN_51_NIGHTS + "passNights(2)\n", "nightsUntilHome(5) = 49");
        runs.run("P26: and so it comes in the 51st night", HOME_IN_51_NIGHTS, "passNights(50)", "isHome(5) = false",
                "passNights(1)", "isHome(5) = true");
    }

    private void meanWeight() {
        runs.changesNothing("P49: without statues", Starts.FOUR_PEDESTALS, "meanWeight() = throws.ArithmeticException");
        runs.changesNothing("P49: without anything", "", "meanWeight() = throws.ArithmeticException");
        runs.changesNothing("P49: where the last statue was undone", Starts.STATUE + "undo()\n",
                "meanWeight() = throws.ArithmeticException");
        runs.changesNothing("P49: one statue", Starts.STATUE, "meanWeight() = 30.0");
        runs.changesNothing("P49: it is not rounded down", Starts.RICH, "meanWeight() = 36.666666666666664");
        runs.changesNothing("P49: six statues", Starts.FULL, "meanWeight() = 10.0");
    }

    private void homeShare() {
        runs.changesNothing("P50: without statues", Starts.FOUR_PEDESTALS, "homeShare() = throws.ArithmeticException");
        runs.changesNothing("P50: without anything", "", "homeShare() = throws.ArithmeticException");
        runs.changesNothing("P50: where the last statue was undone", Starts.STATUE + "undo()\n",
                "homeShare() = throws.ArithmeticException");
        runs.changesNothing("P50: none at home", Starts.STATUE + "setHome(0, 1)\n", "homeShare() = 0.0");
        runs.changesNothing("P50: it is not rounded down", Starts.RICH, "homeShare() = 0.6666667");
        runs.changesNothing("P50: all six at home", Starts.FULL, "homeShare() = 1.0");
    }
}
