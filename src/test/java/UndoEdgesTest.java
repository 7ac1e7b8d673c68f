/** Promises 60 to 62, and what the document says of changes: a test for each edge, titled with its promise. */
public final class UndoEdgesTest {
    private static final String NIGHT = "passNights(1)\n";
    /** Something of everything with nothing to undo, and a night in which no hearing was held yet. */
    private static final String NOTHING_TO_UNDO = Starts.RICH_BUT_BUFFER + "passNights(1)\nsave()\nrestore() = 3\n";
    private static final String[] CHANGES = {"addPedestal() = 4", "setArrow(0, 3) = 1", "addStatue(2, 99)",
        "setHome(0, 3) = 0", "issueWrit(1, 20, 60) = 4", "issueFollower(1, 20, 60, 2) = 4", "addBlocks(1, 9) = 9",
        "payBail(1) = 2", "hear(1)", "hear(0)", "passNights(50)", "run \"pay 1;hear 0;night 9;pedestal\" = 4"};
    /** Nothing but what undo must not count as a change can be seen of these. */
    private static final String[] CHANGES_OF_NOTHING = {"setArrow(0, 0) = 0", "setHome(0, 0) = 0",
        "run \"arrow 00;home 00\" = 2"};
    private static final String[] NO_CHANGES = {"type('n')", "renderStatue(0)", "renderWrit(0)", "save()",
        "isConsistent() = true", "nightsUntilHome(0) = 0", "docketValue()", "docketValueBySets()", "fewestBlocks(5)",
        "fewestBlocksBySearch(5)", "run \"x\" = throws.IllegalArgumentException",
        "run \"night;hear 99\" = throws.IllegalStateException", "addPedestal() = throws.IllegalStateException",
        "setArrow(0, 8) = throws.IndexOutOfBoundsException", "addStatue(0, 5) = throws.IllegalStateException",
        "setHome(0, 8) = throws.IndexOutOfBoundsException", "issueWrit(0, 21, 5) = throws.IllegalArgumentException",
        "issueFollower(0, 9, 5, 9) = throws.NoSuchElementException",
        "addBlocks(0, 5) = throws.IllegalArgumentException", "payBail(9) = throws.NoSuchElementException",
        "hear(9) = throws.NoSuchElementException", "passNights(0) = throws.IllegalArgumentException"};

    private final Runs runs = new Runs();

    public static void main(String[] args) {
        UndoEdgesTest test = new UndoEdgesTest();
        test.nothingToUndo();
        test.latestEight();
        test.undoneChanges();
        test.eachChange();
        test.whatIsAChange();
        test.notCoveredByUndo();
        test.save();
        test.saveIsNoChange();
        test.restoreWithoutSnapshot();
        test.restore();
        test.restoreKeepsTheSnapshot();
        test.nothingToUndoBehindRestore();
        test.notCoveredByRestore();
        test.runs.end();
    }

    private void nothingToUndo() {
        String thrown = "undo() = throws.NoSuchElementException";
        runs.changesNothing("P60: nothing to undo of a new object", "", thrown);
        runs.changesNothing("P60: nothing to undo where all was undone", "addPedestal()\nundo() = 0\n", thrown);
        runs.changesNothing("P60: nothing to undo where only calls that throw were made",
                "hear(0) = throws.NoSuchElementException\nsetArrow(0, 0) = throws.IndexOutOfBoundsException\n", thrown);
        runs.changesNothing("P60: nothing to undo behind eight undone changes", NIGHT.repeat(12)
                + "undo()\n".repeat(8), thrown);
        runs.changesNothing("P60: nothing to undo behind restore", NOTHING_TO_UNDO, thrown);
    }

    private void latestEight() {
        runs.run("P60: one change", NIGHT, "undo() = 0", "night() = 0");
        runs.run("P60: seven changes", NIGHT.repeat(7), "undo() = 6", undone(5), "night() = 0");
        runs.run("P60: eight changes", NIGHT.repeat(8), "undo() = 7", undone(6), "night() = 0",
                "undo() = throws.NoSuchElementException");
        runs.run("P60: of nine changes the first one stays", NIGHT.repeat(9), "undo() = 7", undone(6), "night() = 1",
                "undo() = throws.NoSuchElementException", "night() = 1");
        runs.run("P60: of sixteen changes eight stay", NIGHT.repeat(16), "undo() = 7", undone(6), "night() = 8",
                "undo() = throws.NoSuchElementException");
        runs.run("P60: of seventeen changes nine stay", NIGHT.repeat(17), "undo() = 7", undone(6), "night() = 9",
                "undo() = throws.NoSuchElementException");
        runs.run("P60: of a hundred changes ninety-two stay", NIGHT.repeat(100), "undo() = 7", undone(6),
                "night() = 92", "undo() = throws.NoSuchElementException");
        runs.run("P60: of five hundred changes 492 stay", NIGHT.repeat(500), "undo() = 7", undone(6), "night() = 492",
                "undo() = throws.NoSuchElementException");
        runs.run("P60: the latest one first", "addPedestal()", "addPedestal()", "addStatue(1, 5)", "undo() = 2",
                "statueCount() = 0", "pedestalCount() = 2", "undo() = 1", "pedestalCount() = 1");
    }

    private static String undone(int from) {
        StringBuilder rows = new StringBuilder();
        for (int left = from; left >= 0; left--) {
            rows.append("undo() = ").append(left).append('\n');
        }
        return rows.toString();
    }

    private void undoneChanges() {
        runs.run("P60: an undone change is not undone again", NIGHT, "passNights(10)", "undo() = 1", "undo() = 0",
                "night() = 0", "undo() = throws.NoSuchElementException");
        runs.run("P60: undo itself is no change", NIGHT.repeat(2), "undo() = 1", NIGHT, "undo() = 1", "night() = 1");
        runs.run("P60: new changes in the place of undone ones", NIGHT.repeat(8), "undo() = 7", "undo() = 6",
                "passNights(20)", "passNights(20)", "undo() = 7", "night() = 26", "undo() = 6", "night() = 6");
        runs.run("P60: new changes beyond the place of undone ones", NIGHT.repeat(8), "undo() = 7", "passNights(20)",
                "passNights(20)", "undo() = 7", "night() = 27", undone(6), "night() = 1",
                "undo() = throws.NoSuchElementException");
        runs.run("P60: undone changes make room for no older one", NIGHT.repeat(11), "undo() = 7", "undo() = 6",
                "undo() = 5", undone(4), "night() = 3", "undo() = throws.NoSuchElementException");
    }

    private void eachChange() {
        for (String change : CHANGES) {
            runs.same("P60: undo of " + change, NOTHING_TO_UNDO + change + "\nundo() = 0\n", NOTHING_TO_UNDO);
            runs.same("P60: eight times undo of " + change, NOTHING_TO_UNDO + (change + "\nundo() = 0\n").repeat(8),
                    NOTHING_TO_UNDO);
        }
        runs.run("P60: the id of the next writ", Starts.STATUE, "issueWrit(0, 9, 5) = 0", "undo()",
                "issueWrit(0, 9, 5) = 0", "issueWrit(0, 9, 5) = 1");
        runs.run("P60: whether a hearing was held", Starts.STATUE, "issueWrit(0, 9, 5)", "hear(0) = 'd'", "undo()",
                "docketValue() = 5", "hear(0) = 'd'");
        runs.run("P60: the totals", Starts.RICH, "upheldTotal() = 1", "undo() = 7", "upheldTotal() = 0");
    }

    private void whatIsAChange() {
        for (String change : CHANGES) {
            runs.run("P60: a change is " + change, NOTHING_TO_UNDO, change, "undo() = 0");
        }
        for (String change : CHANGES_OF_NOTHING) {
            runs.run("P60: a change even if the state is the same afterwards is " + change, "addPedestal()",
                    "addStatue(0, 5)", change, "undo() = 2", "statueCount() = 1");
        }
        for (String call : NO_CHANGES) {
            runs.run("P60: no change is " + call, "addPedestal()\n".repeat(8), "addStatue(0, 5)", "addBlocks(5, 1)",
                    "issueWrit(0, 9, 5)", "save()", "restore()", "setHome(0, 0)", call, "undo() = 0");
        }
    }

    private void notCoveredByUndo() {
        String mistakes = """
                run "nx" = throws.IllegalArgumentException
                run "night;arrow 99" = throws.IllegalStateException
                """;
        runs.run("P60: undo leaves the script buffer", "addPedestal()", "type \"nig\" = 3", "undo()",
                "type \"ht\" = 5", "runScript() = 1");
        runs.run("P60: undo of a script does not bring it back", "run \"night\" = 1", "undo() = 0", "type('n') = 1");
        runs.run("P60: undo leaves the error position", "addPedestal()", mistakes, "undo()", "errorPosition() = 1");
        runs.run("P60: undo leaves the failed command", "addPedestal()", mistakes, "undo()", "failedCommand() = 1");
        runs.run("P60: undo leaves the kind of failure", "addPedestal()", mistakes, "undo()", "failureKind() = 'i'");
        runs.run("P60: undo leaves the output text", Starts.STATUE, "renderStatue(0)", "undo()",
                "text = \"0@0>0 30kg\"");
        runs.run("P60: undo leaves the snapshot", "addPedestal()", "save()", "addPedestal()", "undo()", "undo()",
                "pedestalCount() = 0", "restore() = 0", "pedestalCount() = 1");
        runs.run("P60: undo does not bring an earlier snapshot back", "save()", "addPedestal()", "save()", "undo()",
                "restore()", "pedestalCount() = 1");
    }

    private void save() {
        runs.run("P61: of an empty chancery", "save() = 0", "addPedestal()", "restore() = 0", "pedestalCount() = 0");
        runs.run("P61: of six statues", Starts.FULL, "save() = 6");
        runs.run("P61: it replaces an earlier one", "addPedestal()", "save()", "addPedestal()", "save()",
                "addPedestal()", "restore()", "pedestalCount() = 2");
        runs.run("P61: it replaces one that has more", Starts.STATUE, "save() = 1", "undo()", "save() = 0",
                "addStatue(0, 5)", "restore() = 0", "statueCount() = 0");
        runs.run("P61: later changes are not in it", Starts.RICH, "save()", "setArrow(3, 0)", "passNights(9)",
                "addBlocks(1, 9)", "payBail(1)", "restore()", "arrow(3) = 3", "night() = 0", "blocks(1) = 0",
                "isPaid(1) = false");
    }

    private void saveIsNoChange() {
        runs.run("P61: it is no change", "addPedestal()", "save()", "undo() = 0", "pedestalCount() = 0");
        runs.run("P61: it leaves what can be undone", NIGHT.repeat(9), "save()", "undo() = 7", undone(6),
                "night() = 1");
        runs.changesNothing("P61: the same snapshot again", Starts.RICH + "save()\n", "save() = 3");
        runs.sameNow("P61: it changes nothing that can be seen", Starts.RICH + "save()\n", Starts.RICH);
    }

    private void restoreWithoutSnapshot() {
        String thrown = "restore() = throws.IllegalStateException";
        runs.changesNothing("P62: no snapshot of a new object", "", thrown);
        runs.changesNothing("P62: no snapshot, and changes to undo", Starts.FULL, thrown);
        runs.run("P62: a refused one leaves what can be undone", "addPedestal()", "addPedestal()", thrown,
                "undo() = 1", "undo() = 0");
    }

    private void restore() {
        runs.same("P62: all is as it was", NOTHING_TO_UNDO + String.join("\n", CHANGES[0], CHANGES[1], CHANGES[2],
                CHANGES[3], CHANGES[4], CHANGES[6], CHANGES[7], CHANGES[9], CHANGES[10]) + "\nrestore() = 3\n",
                NOTHING_TO_UNDO);
        for (String change : CHANGES) {
            runs.same("P62: restore behind " + change, NOTHING_TO_UNDO + change + "\nrestore() = 3\n",
                    NOTHING_TO_UNDO);
        }
        runs.run("P62: the number of statues of the snapshot", Starts.STATUE, "save() = 1", "addStatue(1, 5)",
                "restore() = 1", "statueCount() = 1");
        runs.run("P62: more statues than there were before", Starts.STATUE, "save() = 1", "undo()",
                "statueCount() = 0", "restore() = 1", "statueCount() = 1", "weightOf(0) = 30");
        runs.run("P62: the id of the next writ", Starts.STATUE, "save()", "issueWrit(0, 9, 5) = 0", "restore()",
                "issueWrit(0, 9, 5) = 0");
    }

    private void restoreKeepsTheSnapshot() {
        runs.run("P62: the snapshot is kept", "addPedestal()", "save()", "addPedestal()", "restore()",
                "pedestalCount() = 1", "addPedestal()", "addPedestal()", "restore()", "pedestalCount() = 1");
        runs.changesNothing("P62: twice the same", NOTHING_TO_UNDO, "restore() = 3");
        runs.run("P62: changes behind it do not spoil it", Starts.STATUE, "save()", "restore()", "setHome(0, 3)",
                "issueWrit(0, 9, 5)", "passNights(1)", "restore()", "home(0) = 0", "writCount() = 0", "night() = 0");
        runs.run("P62: an undone change behind it does not either", Starts.STATUE, "save()", "restore()",
                "setHome(0, 3)", "undo() = 0", "restore()", "home(0) = 0");
        runs.run("P62: nor does a script that fails", Starts.STATUE, "save()",
                "run \"home 03;hear 9\" = throws.IllegalStateException", "restore()", "home(0) = 0");
    }

    private void nothingToUndoBehindRestore() {
        runs.run("P62: nothing to undo afterwards", NIGHT.repeat(9), "save()", "restore()",
                "undo() = throws.NoSuchElementException", "night() = 9");
        runs.run("P62: it is no change itself", "save()", NIGHT, "restore()", "undo() = throws.NoSuchElementException",
                "night() = 0");
        runs.run("P62: later changes can be undone", NIGHT.repeat(5), "save()", "restore()", NIGHT, "undo() = 0",
                "night() = 5");
        runs.run("P62: eight later changes can be undone", NIGHT.repeat(5), "save()", "restore()", NIGHT.repeat(9),
                "undo() = 7", undone(6), "night() = 6", "undo() = throws.NoSuchElementException");
    }

    private void notCoveredByRestore() {
        String mistakes = """
                save()
                run "nx" = throws.IllegalArgumentException
                run "night;arrow 99" = throws.IllegalStateException
                """;
        runs.run("P62: restore leaves the script buffer", "save()", "type \"nig\" = 3", "restore()", "type \"ht\" = 5",
                "runScript() = 1");
        runs.run("P62: restore does not bring the snapshot's buffer back", "type('n')", "save()",
                "runScript() = throws.IllegalArgumentException", "restore()", "type('n') = 1");
        runs.run("P62: restore leaves the error position", mistakes, "restore()", "errorPosition() = 1");
        runs.run("P62: restore leaves the failed command", mistakes, "restore()", "failedCommand() = 1");
        runs.run("P62: restore leaves the kind of failure", mistakes, "restore()", "failureKind() = 'i'");
        runs.run("P62: restore leaves the output text", "save()", Starts.STATUE, "renderStatue(0)", "restore()",
                "text = \"0@0>0 30kg\"");
    }
}
