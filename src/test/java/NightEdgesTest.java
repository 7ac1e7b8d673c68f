/** Promises 10, 11 and 45 to 48: a test for each edge that the document names, titled with its promise. */
public final class NightEdgesTest {
    private static final String WALKER = Starts.STATUE + "setArrow(0, 1)\nsetArrow(1, 2)\nsetArrow(2, 0)\n";
    /** Statue 0 stands away from its home, pedestal 3, which is free. */
    private static final String AWAY = Starts.STATUE + "setHome(0, 3)\nissueWrit(0, 9, 10)\n";
    private static final String BLOCKS = "addBlocks(10, 9)\n";
    private static final String FAMILY = Starts.STATUE + BLOCKS + """
            issueWrit(0, 9, 10) = 0
            issueFollower(0, 9, 20, 0) = 1
            issueFollower(0, 9, 30, 1) = 2
            issueFollower(0, 9, 40, 0) = 3
            issueWrit(0, 9, 50) = 4
            """;

    private final Runs runs = new Runs();

    public static void main(String[] args) {
        NightEdgesTest test = new NightEdgesTest();
        test.hearWrongly();
        test.oneHearingANight();
        test.upheld();
        test.upheldLeavesFollowers();
        test.dismissed();
        test.dismissedWithFollowers();
        test.bailOfHearings();
        test.passNightsWrongly();
        test.lapses();
        test.bailOfLapses();
        test.orderOfMoves();
        test.whoStays();
        test.rounds();
        test.night();
        test.totals();
        test.runs.end();
    }

    private void hearWrongly() {
        runs.changesNothing("P10: a second hearing in a night", Starts.RICH, "hear(0) = throws.IllegalStateException");
        runs.changesNothing("P10: a third one, too", Starts.RICH + "hear(0) = throws.IllegalStateException\n",
                "hear(1) = throws.IllegalStateException");
        runs.changesNothing("P10: a second hearing behind a dismissal", FAMILY + "hear(2) = 'd'\n",
                "hear(0) = throws.IllegalStateException");
        runs.changesNothing("P10: no such open writ comes before the hearing that was held", Starts.RICH,
                "hear(3) = throws.NoSuchElementException");
        runs.changesNothing("P10: no such writ at all comes before it, too", Starts.RICH,
                "hear(-1) = throws.NoSuchElementException");
        runs.refusesOutside("P10: without a hearing tonight", Starts.RICH_NEXT_NIGHT, "hear(#)", 0, 2,
                Starts.ELEMENT);
    }

    private void oneHearingANight() {
        runs.run("P10: a hearing of no open writ is not held", FAMILY, "hear(9) = throws.NoSuchElementException",
                "hear(2) = 'd'");
        runs.run("P10: the next night has its own hearing", FAMILY, "hear(2) = 'd'", "passNights(1)", "hear(3) = 'd'",
                "hear(4) = throws.IllegalStateException");
        runs.run("P10: nights without a hearing save none", FAMILY, "passNights(3)", "hear(2) = 'd'",
                "hear(3) = throws.IllegalStateException");
        runs.run("P10: an undone hearing was not held", FAMILY, "hear(2) = 'd'", "undo()", "hear(2) = 'd'");
        runs.run("P10: undone nights bring its night back", FAMILY, "hear(2) = 'd'", "passNights(1)", "hear(3) = 'd'",
                "undo()", "undo()", "night() = 0", "hear(3) = throws.IllegalStateException");
        runs.run("P10: the snapshot's night had its hearing", FAMILY, "hear(2) = 'd'", "save()", "passNights(1)",
                "restore()", "hear(3) = throws.IllegalStateException");
        runs.run("P10: the snapshot's night had none", FAMILY, "save()", "hear(2) = 'd'", "restore()",
                "hear(3) = 'd'");
        runs.run("P10: on the writ's last night", FAMILY, "passNights(9)", "hear(0) = 'd'");
    }

    private void upheld() {
        runs.run("P10: upheld, and the statue is carried to its free home", AWAY, "hear(0) = 'u'", "pedestalOf(0) = 3",
                "isFree(0) = true", "statueOn(3) = 0");
        runs.run("P10: upheld, and another one stands on the home", AWAY, "addStatue(3, 5)", "hear(0) = 'u'",
                "pedestalOf(0) = 0", "pedestalOf(1) = 3");
        runs.run("P10: upheld, and statue 0 stands on the home", Starts.RICH, "pedestalOf(2) = 3", "pedestalOf(0) = 0",
                "upheldTotal() = 1");
        runs.run("P10: carried although another writ binds it", AWAY, "issueWrit(0, 9, 10)", "hear(0) = 'u'",
                "pedestalOf(0) = 3", "isBound(0) = true");
        runs.run("P10: carried although no arrow leads there", AWAY, "setArrow(0, 1)", "hear(0) = 'u'",
                "pedestalOf(0) = 3");
        runs.run("P10: only the writ's statue is carried", AWAY, "addStatue(1, 5)", "setHome(1, 2)", "hear(0) = 'u'",
                "pedestalOf(1) = 1");
        runs.run("P10: an upheld writ is not open any more", AWAY, "hear(0) = 'u'", "writCount() = 0",
                "isBound(0) = false", "bail(0) = throws.NoSuchElementException");
        runs.run("P10: the home is where setHome has put it", Starts.STATUE, "setHome(0, 1)", "setHome(0, 0)",
                "issueWrit(0, 9, 5)", "hear(0) = 'd'");
    }

    private void upheldLeavesFollowers() {
        runs.run("P10: those whose cause was upheld have none any more", FAMILY, "setHome(0, 3)", "hear(0) = 'u'",
                "causeOf(1) = throws.NoSuchElementException", "causeOf(3) = throws.NoSuchElementException",
                "writCount() = 4");
        runs.run("P10: those behind them keep theirs", FAMILY, "setHome(0, 3)", "hear(0) = 'u'", "causeOf(2) = 1");
        runs.run("P10: the upheld writ's own cause stays open", FAMILY, "setHome(0, 3)", "hear(1) = 'u'",
                "bail(0) = 10", "followers(0) = 1", "causeOf(2) = throws.NoSuchElementException");
        runs.run("P46: one upheld writ counts as one, its followers do not", FAMILY, "setHome(0, 3)", "hear(0) = 'u'",
                "upheldTotal() = 1", "dismissedTotal() = 0", "lapsedTotal() = 0");
    }

    private void dismissed() {
        runs.run("P10: dismissed where the statue stands on its home", FAMILY, "hear(4) = 'd'", "writCount() = 4",
                "bail(4) = throws.NoSuchElementException", "pedestalOf(0) = 0");
        runs.run("P10: dismissed although its bail is paid", FAMILY, "payBail(0)", "hear(0) = 'd'");
        runs.run("P10: dismissed where it has come home by arrows", WALKER, "issueWrit(0, 0, 5)", "passNights(3)",
                "issueWrit(0, 0, 5)", "pedestalOf(0) = 0", "hear(1) = 'd'");
        runs.run("P10: dismissed on a pedestal that became its home", WALKER, "passNights(1)", "setHome(0, 1)",
                "issueWrit(0, 0, 5)", "hear(0) = 'd'");
        runs.run("P10: a dismissal carries no statue", FAMILY, "addStatue(1, 5)", "setHome(1, 2)",
                "issueFollower(1, 9, 5, 4)", "hear(4) = 'd'", "pedestalOf(1) = 1");
    }

    private void dismissedWithFollowers() {
        runs.run("P10: all of its followers are dismissed, too", FAMILY, "hear(0) = 'd'", "writCount() = 1",
                "writAt(0) = 4");
        runs.run("P10: a follower's followers are, its cause and the cause's others are not", FAMILY, "hear(1) = 'd'",
                "writCount() = 3", "writAt(0) = 0", "writAt(1) = 3", "writAt(2) = 4", "causeOf(3) = 0");
        runs.run("P10: the last follower alone", FAMILY, "hear(2) = 'd'", "writCount() = 4", "followers(0) = 2");
        runs.run("P10: a follower whose own statue is not at home", FAMILY, "addStatue(1, 5)", "setHome(1, 2)",
                "issueFollower(1, 9, 5, 4)", "hear(4) = 'd'", "dismissedTotal() = 2", "upheldTotal() = 0");
        runs.run("P10: what is a follower no more stays", FAMILY, "setHome(0, 3)", "hear(1) = 'u'", "passNights(1)",
                "pedestalOf(0) = 3", "hear(0) = 'd'", "writCount() = 2", "writAt(0) = 2", "writAt(1) = 4");
        runs.run("P47: eight writs in a row", Starts.STATUE, "issueWrit(0, 9, 5)", chain(), "hear(0) = 'd'",
                "writCount() = 0", "dismissedTotal() = 8");
        runs.run("P47: the seven behind the first", Starts.STATUE, "issueWrit(0, 9, 5)", chain(), "hear(1) = 'd'",
                "writCount() = 1", "dismissedTotal() = 7");
    }

    private static String chain() {
        StringBuilder rows = new StringBuilder();
        for (int cause = 0; cause < 7; cause++) {
            rows.append("issueFollower(0, 9, 5, ").append(cause).append(")\n");
        }
        return rows.toString();
    }

    private void bailOfHearings() {
        runs.run("P10: the bail of a dismissed writ goes back as blocks of the weight 1", FAMILY, "payBail(4) = 5",
                "hear(4) = 'd'", "treasury() = 0", "blocks(1) = 50", "blocks(10) = 4", "marbleTotal() = 90");
        runs.run("P10: the bail of its paid followers goes back", FAMILY, "payBail(2) = 3", "payBail(3) = 4",
                "payBail(0) = 1", "hear(0) = 'd'", "treasury() = 0", "blocks(1) = 80", "blocks(10) = 1");
        runs.run("P10: a bail that is not paid does not go back", FAMILY, "payBail(1) = 2", "hear(2) = 'd'",
                "treasury() = 20", "blocks(1) = 0");
        runs.run("P10: the bail of an upheld writ does not go back", FAMILY, "payBail(4) = 5", "setHome(0, 3)",
                "hear(4) = 'u'", "treasury() = 50", "blocks(1) = 0", "marbleTotal() = 90", "marbleByAccounts() = 90");
        runs.run("P10: other writs' bail stays in the treasury", FAMILY, "payBail(3) = 4", "payBail(4) = 5",
                "hear(4) = 'd'", "treasury() = 40");
    }

    private void passNightsWrongly() {
        runs.refusesOutside("P11: too few or too many nights", Starts.RICH, "passNights(#)", 1, 50, Starts.ARGUMENT);
        runs.refusesOutside("P11: too few or too many nights of an empty chancery", "", "passNights(#)", 1, 50,
                Starts.ARGUMENT);
        runs.run("P11: 1 night", WALKER, "passNights(1) = 1", "night() = 1", "pedestalOf(0) = 1");
        runs.run("P11: 50 nights", WALKER, "passNights(50) = 50", "night() = 50", "pedestalOf(0) = 2");
        runs.run("P11: without pedestals", "passNights(50) = 0", "night() = 50");
        runs.run("P11: without statues", Starts.EIGHT_PEDESTALS, "setArrow(0, 1)", "passNights(50) = 0");
        runs.sameNow("P11: 50 nights at once are 50 times a night", Starts.RICH + "passNights(50)\n",
                Starts.RICH + "passNights(1)\n".repeat(50));
    }

    private void lapses() {
        runs.run("P11: a writ does not lapse on its last night", FAMILY, "passNights(9)", "writCount() = 5",
                "lapsedTotal() = 0");
        runs.run("P11: a writ lapses on the night behind its last one", FAMILY, "passNights(9)", "passNights(1)",
                "writCount() = 0", "lapsedTotal() = 5");
        runs.run("P11: a writ of 0 nights lapses with the first night that passes", Starts.STATUE, "issueWrit(0, 0, 5)",
                "writCount() = 1", "passNights(1)", "writCount() = 0", "lapsedTotal() = 1");
        runs.run("P11: a writ of 20 nights", Starts.STATUE, "issueWrit(0, 20, 5)", "passNights(20)", "writCount() = 1",
                "passNights(1)", "writCount() = 0");
        runs.run("P48: eight writs lapse in one night", Starts.FULL, "passNights(10)", "writCount() = 0",
                "lapsedTotal() = 8");
        runs.run("P11: those whose cause has lapsed have none any more, and stay", Starts.STATUE, "issueWrit(0, 0, 5)",
                "issueFollower(0, 1, 5, 0)", "issueFollower(0, 1, 5, 1)", "passNights(1)",
                "causeOf(1) = throws.NoSuchElementException", "causeOf(2) = 1", "writCount() = 2");
        runs.run("P11: a follower lapses, its cause stays", Starts.STATUE, "issueWrit(0, 1, 5)",
                "issueFollower(0, 0, 5, 0)", "passNights(1)", "writCount() = 1", "writAt(0) = 0");
        runs.run("P11: what lies between two that lapse stays", Starts.STATUE, "issueWrit(0, 0, 1)",
                "issueWrit(0, 0, 2)", "issueWrit(0, 5, 3)", "issueWrit(0, 0, 4)", "passNights(1)", "writCount() = 1",
                "writAt(0) = 2", "bail(2) = 3", "lastNight(2) = 5");
        runs.run("P11: lapses come before moves", WALKER, "issueWrit(0, 0, 5)", "passNights(1) = 1",
                "pedestalOf(0) = 1");
        runs.run("P11: the night counter goes on before lapses", WALKER, "issueWrit(0, 1, 5)", "passNights(1) = 0",
                "passNights(1) = 1");
    }

    private void bailOfLapses() {
        runs.run("P11: the bail of a lapsed writ goes back as blocks of the weight 1", FAMILY, "payBail(4) = 5",
                "passNights(10)", "treasury() = 0", "blocks(1) = 50", "blocks(10) = 4", "marbleTotal() = 90");
        runs.run("P11: a bail that is not paid does not go back", FAMILY, "passNights(10)", "treasury() = 0",
                "blocks(1) = 0", "blocks(10) = 9");
        runs.run("P11: it does not go back on the last night", FAMILY, "payBail(4) = 5", "passNights(9)",
                "treasury() = 50", "blocks(1) = 0");
        runs.run("P11: the bail of an upheld writ never goes back", FAMILY, "payBail(4) = 5", "setHome(0, 3)",
                "hear(4) = 'u'", "passNights(50)", "treasury() = 50", "blocks(1) = 0");
    }

    private void orderOfMoves() {
        runs.run("P11: the heaviest first: it makes room", Starts.STATUE, "addStatue(1, 31)", "setArrow(0, 1)",
                "setArrow(1, 2)", "passNights(1) = 2", "pedestalOf(0) = 1", "pedestalOf(1) = 2");
        runs.run("P11: the heaviest first: nobody has made room yet", Starts.STATUE, "addStatue(1, 29)",
                "setArrow(0, 1)", "setArrow(1, 2)", "passNights(1) = 1", "pedestalOf(0) = 0", "pedestalOf(1) = 2");
        runs.run("P11: of equal weights the lower index first", Starts.STATUE, "addStatue(1, 30)", "setArrow(0, 2)",
                "setArrow(1, 2)", "passNights(1) = 1", "pedestalOf(0) = 2", "pedestalOf(1) = 1");
        runs.run("P11: of equal weights the lower index has no room yet", Starts.STATUE, "addStatue(1, 30)",
                "setArrow(0, 1)", "setArrow(1, 2)", "passNights(1) = 1", "pedestalOf(0) = 0", "pedestalOf(1) = 2");
        runs.run("P11: of two for one pedestal the heavier one comes there", Starts.STATUE, "addStatue(1, 99)",
                "setArrow(0, 2)", "setArrow(1, 2)", "passNights(1) = 1", "pedestalOf(0) = 0", "pedestalOf(1) = 2");
        runs.run("P11: a statue moves once a night, though the next arrow leads on", WALKER, "passNights(1) = 1",
                "pedestalOf(0) = 1");
    }

    private void whoStays() {
        runs.run("P11: where an arrow leads to its own pedestal, nobody moves", Starts.STATUE, "passNights(50) = 0",
                "pedestalOf(0) = 0");
        runs.run("P11: a bound statue stays, and keeps others out", WALKER, "addStatue(1, 99)", "issueWrit(1, 1, 5)",
                "passNights(1) = 0", "pedestalOf(0) = 0", "pedestalOf(1) = 1");
        runs.run("P11: a statue whose bail is paid moves", WALKER, BLOCKS, "issueWrit(0, 9, 10)", "passNights(1) = 0",
                "payBail(0)", "passNights(1) = 1");
        runs.run("P11: a statue with one of two bails paid stays", WALKER, BLOCKS, "issueWrit(0, 9, 10)",
                "issueWrit(0, 9, 10)", "payBail(1)", "passNights(1) = 0");
        runs.run("P11: two that face each other stay", Starts.STATUE, "addStatue(1, 30)", "setArrow(0, 1)",
                "setArrow(1, 0)", "passNights(50) = 0");
        runs.run("P11: a moved statue keeps its home", WALKER, "passNights(1) = 1", "home(0) = 0", "isHome(0) = false");
    }

    private void rounds() {
        runs.run("P11: on a full round nobody moves", WALKER, "addStatue(1, 99)", "addStatue(2, 30)",
                "passNights(50) = 0", "pedestalOf(0) = 0");
        runs.run("P11: one gap lets one move after the other", WALKER, "addStatue(1, 30)", "passNights(1) = 1",
                "pedestalOf(1) = 2", "passNights(1) = 2", "pedestalOf(0) = 1", "pedestalOf(1) = 0");
        runs.run("P11: round the round and back", WALKER, "passNights(3) = 3", "pedestalOf(0) = 0");
        runs.run("P11: six on a round of eight", Starts.FULL, "setArrow(0, 1)", "setArrow(1, 2)", "setArrow(2, 3)",
                "setArrow(3, 4)", "setArrow(4, 5)", "setArrow(5, 6)", "setArrow(6, 7)", "setArrow(7, 0)",
                "passNights(1) = 1", "pedestalOf(5) = 6", "pedestalOf(4) = 4");
    }

    private void night() {
        runs.changesNothing("P45: night 0", "", "night() = 0");
        runs.changesNothing("P45: behind 50 nights", "passNights(50)\n", "night() = 50");
        runs.changesNothing("P45: behind three scripts of 250 nights each", "run \"night 50;night 50;night 50;night 50;"
                + "night 50\"\n" + "run \"night 50;night 50;night 50;night 50;night 50\"\n"
                + "run \"night 50;night 50;night 50;night 50;night 50\"\n", "night() = 750");
        runs.run("P45: behind as many nights as 511 calls pass", "passNights(50) = 0\n".repeat(511), "night() = 25550");
        runs.changesNothing("P45: a script without a number passes one", "run \"night;night\" = 2\n", "night() = 2");
    }

    private void totals() {
        runs.changesNothing("P46: none", Starts.STATUE, "upheldTotal() = 0");
        runs.changesNothing("P46: one", Starts.RICH, "upheldTotal() = 1");
        runs.changesNothing("P47: none, one was upheld", Starts.RICH, "dismissedTotal() = 0");
        runs.changesNothing("P47: followers are included", FAMILY + "hear(0) = 'd'\n", "dismissedTotal() = 4");
        runs.changesNothing("P47: writs that have lapsed are not", Starts.FULL + "passNights(10)\n",
                "dismissedTotal() = 0");
        runs.changesNothing("P48: none on the last night", Starts.FULL + "passNights(9)\n", "lapsedTotal() = 0");
        runs.changesNothing("P48: dismissed and upheld writs have not lapsed", FAMILY
                + "hear(0) = 'd'\nsetHome(0, 3)\npassNights(1)\nhear(4) = 'u'\npassNights(20)\n", "lapsedTotal() = 0");
        runs.run("P46: it goes on counting", AWAY, "addStatue(3, 5)", "issueWrit(0, 9, 10)", "hear(0) = 'u'",
                "passNights(1)", "hear(1) = 'u'", "upheldTotal() = 2");
        runs.run("P47: it goes on counting", FAMILY, "hear(2) = 'd'", "passNights(1)", "hear(0) = 'd'",
                "dismissedTotal() = 4");
        runs.run("P48: it goes on counting", Starts.STATUE, "issueWrit(0, 0, 5)", "issueWrit(0, 1, 5)",
                "passNights(1)", "lapsedTotal() = 1", "passNights(1)", "lapsedTotal() = 2");
    }
}
