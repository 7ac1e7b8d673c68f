/** Promises 52 to 54: a test for each edge that the document names, titled with its promise. */
public final class OutputEdgesTest {
    private final Runs runs = new Runs();

    public static void main(String[] args) {
        OutputEdgesTest test = new OutputEdgesTest();
        test.renderStatue();
        test.renderWrit();
        test.outputAt();
        test.outputIsReplaced();
        test.runs.end();
    }

    private void renderStatue() {
        runs.run("P52: not bound", Starts.RICH, "renderStatue(0) = 10", "text = \"0@0>0 30kg\"");
        runs.run("P52: bound, and away from its home", Starts.RICH, "renderStatue(2) = 11", "text = \"2@3>0 50kg!\"");
        runs.run("P52: the least weight", Starts.FOUR_PEDESTALS, "addStatue(3, 1)", "renderStatue(0) = 9",
                "text = \"0@3>3 1kg\"");
        runs.run("P52: the greatest weight", Starts.FOUR_PEDESTALS, "addStatue(3, 99)", "renderStatue(0) = 10",
                "text = \"0@3>3 99kg\"");
        runs.run("P52: the last statue on the last pedestal", Starts.FULL, "setArrow(5, 7)", "passNights(1)",
                "renderStatue(5) = 10", "text = \"5@7>5 10kg\"");
        runs.changesNothing("P52: the same text again", Starts.RICH, "renderStatue(1) = 11");
        runs.run("P52: it is no change", "addPedestal()", "addStatue(0, 5)", "renderStatue(0)", "undo() = 1",
                "statueCount() = 0");
        runs.run("P52: no such statue leaves the text", Starts.RICH,
                "renderStatue(3) = throws.IndexOutOfBoundsException", "text = \"1@1>1 30kg!\"");
    }

    private void renderWrit() {
        runs.run("P53: paid, without a cause", Starts.RICH, "renderWrit(0) = 9", "text = \"0:0#9$20+\"");
        runs.run("P53: not paid, with writ 0 as its cause", Starts.RICH, "renderWrit(1) = 10",
                "text = \"1:1<0#9$40\"");
        runs.run("P53: a cause that was upheld is not told", Starts.RICH_NEXT_NIGHT, "setHome(0, 3)", "hear(0) = 'u'",
                "renderWrit(1) = 8", "text = \"1:1#9$40\"");
        runs.run("P53: a cause that has lapsed is not told", Starts.STATUE, "issueWrit(0, 0, 5)",
                "issueFollower(0, 9, 1, 0)", "passNights(1)", "renderWrit(1) = 7", "text = \"1:0#9$1\"");
        runs.run("P53: a last night of tonight", Starts.STATUE, "issueWrit(0, 0, 60)", "renderWrit(0) = 8",
                "text = \"0:0#0$60\"");
        runs.run("P53: numbers of more digits", Starts.FULL, "passNights(50)", "passNights(50)",
                "issueWrit(0, 9, 10)\n".repeat(3), "addBlocks(10, 1)", "issueFollower(5, 20, 10, 10) = 11",
                "payBail(11) = 1", "renderWrit(11) = 15", "text = \"11:5<10#120$10+\"");
        runs.run("P53: it is no change", Starts.STATUE, "issueWrit(0, 0, 60)", "renderWrit(0)", "undo() = 5",
                "writCount() = 0");
        runs.changesNothing("P53: the same text again", Starts.RICH + "renderWrit(1)\n", "renderWrit(1) = 10");
        runs.run("P53: no such writ leaves the text", Starts.RICH, "renderWrit(3) = throws.NoSuchElementException",
                "text = \"1@1>1 30kg!\"");
    }

    private void outputAt() {
        runs.refusesOutside("P54: no such index", Starts.RICH, "outputAt(#)", 0, 10, Starts.BOUNDS);
        runs.changesNothing("P54: an empty text", "", "outputAt(0) = throws.IndexOutOfBoundsException");
        runs.refusesOutside("P54: before and behind an empty text", "", "outputAt(#)", 0, -1, Starts.BOUNDS);
        runs.changesNothing("P54: the first character", Starts.RICH, "outputAt(0) = '1'");
        runs.changesNothing("P54: the last character", Starts.RICH, "outputAt(10) = '!'");
        runs.run("P54: still empty where nothing could be rendered", Starts.STATUE,
                "renderStatue(1) = throws.IndexOutOfBoundsException", "renderWrit(0) = throws.NoSuchElementException",
                "outputAt(0) = throws.IndexOutOfBoundsException");
    }

    private void outputIsReplaced() {
        runs.run("P54: a shorter text leaves nothing of a longer one", Starts.RICH, "renderStatue(0) = 10",
                "outputAt(9) = 'g'", "outputAt(10) = throws.IndexOutOfBoundsException");
        runs.run("P54: a writ's text replaces a statue's", Starts.RICH, "renderWrit(0) = 9", "text = \"0:0#9$20+\"",
                "outputAt(9) = throws.IndexOutOfBoundsException");
        runs.run("P54: the text stays as it was when its statue changes", Starts.RICH, "setHome(1, 3)",
                "text = \"1@1>1 30kg!\"");
        runs.run("P54: undo leaves the text", Starts.STATUE, "setHome(0, 1)", "renderStatue(0)", "undo()",
                "text = \"0@0>1 30kg\"");
        runs.run("P54: restore leaves the text", Starts.STATUE, "save()", "setHome(0, 1)", "renderStatue(0)",
                "restore()", "text = \"0@0>1 30kg\"");
    }
}
