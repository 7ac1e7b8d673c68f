/** Promises 1 to 3 and 12 to 18: a test for each edge that the document names, titled with its promise. */
public final class PedestalEdgesTest {
    private static final String TAIL_AND_ROUND = Starts.EIGHT_PEDESTALS + """
            setArrow(0, 1)
            setArrow(1, 2)
            setArrow(2, 3)
            setArrow(3, 4)
            setArrow(4, 2)
            """;
    private static final String ROUND_OF_ALL = Starts.EIGHT_PEDESTALS + """
            setArrow(0, 1)
            setArrow(1, 2)
            setArrow(2, 3)
            setArrow(3, 4)
            setArrow(4, 5)
            setArrow(5, 6)
            setArrow(6, 7)
            setArrow(7, 0)
            """;

    private final Runs runs = new Runs();

    public static void main(String[] args) {
        PedestalEdgesTest test = new PedestalEdgesTest();
        test.newObject();
        test.newObjectHasNothingBehindIt();
        test.addPedestal();
        test.setArrow();
        test.setArrowWrongly();
        test.pedestalCount();
        test.arrow();
        test.isFree();
        test.statueOn();
        for (String way : new String[] {"P16: arrowAfter", "P17: arrowAfterByDoubling"}) {
            test.stepsAtTheirEdges(way, way.substring(5));
            test.stepsRoundTheRound(way, way.substring(5));
        }
        test.roundLength();
        test.runs.end();
    }

    private void newObject() {
        runs.run("P1: no pedestals", "pedestalCount() = 0", "isFree(0) = throws.IndexOutOfBoundsException");
        runs.run("P1: no statues", "statueCount() = 0", "pedestalOf(0) = throws.IndexOutOfBoundsException");
        runs.run("P1: no writs", "writCount() = 0", "writAt(0) = throws.NoSuchElementException");
        for (int weight = 1; weight <= 20; weight++) {
            runs.run("P1: no blocks of any weight", "blocks(" + weight + ") = 0");
        }
        runs.run("P1: night 0", "night() = 0");
        runs.run("P1: no marble", "treasury() = 0", "marbleTotal() = 0", "marbleByAccounts() = 0");
        runs.run("P1: no writ was upheld", "upheldTotal() = 0");
        runs.run("P1: no writ was dismissed", "dismissedTotal() = 0");
        runs.run("P1: no writ has lapsed", "lapsedTotal() = 0");
        runs.run("P1: the first writ has the id 0", Starts.STATUE, "issueWrit(0, 0, 1) = 0");
        runs.run("P1: a hearing may be held on night 0", Starts.STATUE, "issueWrit(0, 0, 1)", "hear(0) = 'd'");
    }

    private void newObjectHasNothingBehindIt() {
        runs.run("P1: nothing to undo", "undo() = throws.NoSuchElementException");
        runs.run("P1: no snapshot", "restore() = throws.IllegalStateException");
        runs.run("P1: an empty output text", "text = \"\"");
        runs.run("P1: an empty script buffer", "type('n') = 1");
        runs.run("P1: no script's error", "errorPosition() = throws.NoSuchElementException");
        runs.run("P1: no script's failure", "failedCommand() = throws.NoSuchElementException",
                "failureKind() = throws.NoSuchElementException");
    }

    private void addPedestal() {
        runs.run("P2: the first pedestal has the index 0", "addPedestal() = 0");
        runs.run("P2: the eighth pedestal is added", "addPedestal()\n".repeat(7), "addPedestal() = 7",
                "pedestalCount() = 8", "isFree(7) = true");
        runs.changesNothing("P2: a ninth pedestal is refused", Starts.EIGHT_PEDESTALS,
                "addPedestal() = throws.IllegalStateException");
        runs.changesNothing("P2: a ninth pedestal is refused beside all else", Starts.FULL,
                "addPedestal() = throws.IllegalStateException");
        runs.changesNothing("P2: it is refused again", Starts.EIGHT_PEDESTALS
                + "addPedestal() = throws.IllegalStateException\n", "addPedestal() = throws.IllegalStateException");
        runs.run("P2: a pedestal is added where one was undone", Starts.EIGHT_PEDESTALS, "undo() = 7",
                "addPedestal() = 7", "addPedestal() = throws.IllegalStateException");
        runs.run("P2: it is without a statue", Starts.STATUE, "addPedestal() = 4", "isFree(4) = true",
                "statueOn(4) = throws.NoSuchElementException");
        runs.run("P2: its arrow leads to itself", Starts.STATUE, "addPedestal() = 4", "arrow(4) = 4");
        runs.run("P2: no other arrow turns", Starts.STATUE, "setArrow(0, 3)", "addPedestal() = 4", "arrow(0) = 3");
    }

    private void setArrow() {
        runs.run("P3: the last pedestal's arrow", Starts.EIGHT_PEDESTALS, "setArrow(7, 0) = 7", "arrow(7) = 0");
        runs.run("P3: the last pedestal as the target", Starts.EIGHT_PEDESTALS, "setArrow(0, 7) = 0",
                "arrow(0) = 7");
        runs.run("P3: the target may be the same", Starts.FOUR_PEDESTALS, "setArrow(2, 3)", "setArrow(2, 2) = 3",
                "arrow(2) = 2");
        runs.run("P3: at first it led to itself", Starts.FOUR_PEDESTALS, "setArrow(3, 1) = 3");
        runs.run("P3: the target before may be the target again", Starts.FOUR_PEDESTALS, "setArrow(3, 1)",
                "setArrow(3, 1) = 1", "arrow(3) = 1");
        runs.run("P3: a lone pedestal", "addPedestal()", "setArrow(0, 0) = 0",
                "setArrow(0, 1) = throws.IndexOutOfBoundsException");
    }

    private void setArrowWrongly() {
        runs.refusesOutside("P3: no such pedestal", Starts.RICH, "setArrow(#, 0)", 0, 3, Starts.BOUNDS);
        runs.refusesOutside("P3: no such target", Starts.RICH, "setArrow(0, #)", 0, 3, Starts.BOUNDS);
        runs.refusesOutside("P3: neither", Starts.RICH, "setArrow(#, #)", 0, 3, Starts.BOUNDS);
        runs.refusesOutside("P3: a pedestal beyond eight", Starts.EIGHT_PEDESTALS, "setArrow(#, 0)", 0, 7,
                Starts.BOUNDS);
        runs.refusesOutside("P3: a target beyond eight", Starts.EIGHT_PEDESTALS, "setArrow(0, #)", 0, 7,
                Starts.BOUNDS);
        runs.changesNothing("P3: without pedestals", "", "setArrow(0, 0) = throws.IndexOutOfBoundsException");
    }

    private void pedestalCount() {
        runs.changesNothing("P12: none", "", "pedestalCount() = 0");
        runs.changesNothing("P12: eight", Starts.EIGHT_PEDESTALS, "pedestalCount() = 8");
    }

    private void arrow() {
        runs.refusesOutside("P13: no such pedestal", Starts.RICH, "arrow(#)", 0, 3, Starts.BOUNDS);
        runs.refusesOutside("P13: a pedestal beyond eight", Starts.EIGHT_PEDESTALS, "arrow(#)", 0, 7, Starts.BOUNDS);
        runs.changesNothing("P13: without pedestals", "", "arrow(0) = throws.IndexOutOfBoundsException");
        runs.changesNothing("P13: it leads to itself at first", Starts.RICH, "arrow(3) = 3");
        runs.changesNothing("P13: the first pedestal's", Starts.RICH, "arrow(0) = 1");
        runs.changesNothing("P13: the last of eight", ROUND_OF_ALL, "arrow(7) = 0");
    }

    private void isFree() {
        runs.refusesOutside("P14: no such pedestal", Starts.RICH, "isFree(#)", 0, 3, Starts.BOUNDS);
        runs.refusesOutside("P14: a pedestal beyond eight", Starts.FULL, "isFree(#)", 0, 7, Starts.BOUNDS);
        runs.changesNothing("P14: without pedestals", "", "isFree(0) = throws.IndexOutOfBoundsException");
        runs.changesNothing("P14: no statue stands on it", Starts.RICH, "isFree(2) = true");
        runs.changesNothing("P14: statue 0 stands on it", Starts.RICH, "isFree(0) = false");
        runs.changesNothing("P14: the last statue stands on it", Starts.FULL, "isFree(5) = false");
        runs.run("P14: a home is free where its statue has left", Starts.STATUE, "setArrow(0, 1)", "passNights(1)",
                "home(0) = 0", "isFree(0) = true", "isFree(1) = false");
    }

    private void statueOn() {
        runs.refusesOutside("P15: no such pedestal", Starts.RICH, "statueOn(#)", 0, 3, Starts.BOUNDS);
        runs.refusesOutside("P15: a pedestal beyond eight", Starts.FULL, "statueOn(#)", 0, 7, Starts.BOUNDS);
        runs.changesNothing("P15: without pedestals", "", "statueOn(0) = throws.IndexOutOfBoundsException");
        runs.changesNothing("P15: no statue stands on it", Starts.RICH, "statueOn(2) = throws.NoSuchElementException");
        runs.changesNothing("P15: without statues", Starts.FOUR_PEDESTALS,
                "statueOn(0) = throws.NoSuchElementException");
        runs.changesNothing("P15: the first statue", Starts.RICH, "statueOn(0) = 0");
        runs.changesNothing("P15: the last statue", Starts.FULL, "statueOn(5) = 5");
        runs.run("P15: where it has left and where it has come", Starts.STATUE, "setArrow(0, 1)", "passNights(1)",
                "statueOn(0) = throws.NoSuchElementException", "statueOn(1) = 0");
    }

    private void stepsAtTheirEdges(String title, String way) {
        runs.refusesOutside(title + " of no such pedestal", Starts.RICH, way + "(#, 1)", 0, 3, Starts.BOUNDS);
        runs.refusesOutside(title + " with too few or too many steps", Starts.RICH, way + "(0, #)", 0, 9999,
                Starts.ARGUMENT);
        runs.refusesOutside(title + ": no such pedestal is listed before the steps", Starts.RICH, way + "(#, -1)", 0,
                3, Starts.BOUNDS);
        runs.refusesOutside(title + ": the steps come second", Starts.RICH, way + "(4, #)", 0, 9999, Starts.BOUNDS);
        runs.changesNothing(title + " without pedestals", "", way + "(0, 0) = throws.IndexOutOfBoundsException");
        runs.changesNothing(title + ": 0 steps lead nowhere", Starts.RICH, way + "(1, 0) = 1");
        runs.changesNothing(title + ": 1 step", Starts.RICH, way + "(1, 1) = 2");
        runs.changesNothing(title + ": 9999 steps, thrice 3333", Starts.RICH, way + "(1, 9999) = 1");
        runs.changesNothing(title + ": 9998 steps", Starts.RICH, way + "(1, 9998) = 0");
        runs.changesNothing(title + ": an arrow to its own pedestal", Starts.RICH, way + "(3, 9999) = 3");
        runs.changesNothing(title + ": a lone pedestal", "addPedestal()", way + "(0, 9999) = 0");
    }

    private void stepsRoundTheRound(String title, String way) {
        runs.run(title + " goes on at the round's beginning", ROUND_OF_ALL, way + "(0, 7) = 7", way + "(0, 8) = 0",
                way + "(0, 9) = 1", way + "(7, 1) = 0", way + "(5, 9999) = 4");
        runs.run(title + " from a tail into a round", TAIL_AND_ROUND, way + "(0, 1) = 1", way + "(0, 2) = 2",
                way + "(0, 4) = 4", way + "(0, 5) = 2", way + "(1, 4) = 2");
        for (int power = 1; power <= 8192; power *= 2) {
            // The round has eight pedestals, so only the last three bits of the steps count.
            runs.run(title + " with a power of two", ROUND_OF_ALL, way + "(0, " + power + ") = " + power % 8,
                    way + "(3, " + (power - 1) + ") = " + (power + 2) % 8);
        }
    }

    private void roundLength() {
        runs.refusesOutside("P18: no such pedestal", Starts.RICH, "roundLength(#)", 0, 3, Starts.BOUNDS);
        runs.changesNothing("P18: without pedestals", "", "roundLength(0) = throws.IndexOutOfBoundsException");
        runs.changesNothing("P18: 1 where an arrow leads to its own pedestal", Starts.RICH, "roundLength(3) = 1");
        runs.run("P18: 1 at the end of a tail of seven", ROUND_OF_ALL, "setArrow(7, 7)", "roundLength(0) = 1");
        runs.run("P18: 8 where all are on the round", ROUND_OF_ALL, "roundLength(0) = 8", "roundLength(7) = 8");
        runs.run("P18: 2 at the end of a tail of six", ROUND_OF_ALL, "setArrow(7, 6)", "roundLength(0) = 2");
        runs.run("P18: a tail does not count", TAIL_AND_ROUND, "roundLength(0) = 3", "roundLength(1) = 3",
                "roundLength(2) = 3");
        runs.run("P18: 7 behind a tail of one", ROUND_OF_ALL, "setArrow(7, 1)", "roundLength(0) = 7");
        runs.changesNothing("P18: a lone pedestal", "addPedestal()", "roundLength(0) = 1");
    }
}
