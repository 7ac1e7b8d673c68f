/** Promises 8, 9, 39 to 44 and 51: a test for each edge that the document names, titled with its promise. */
public final class MarbleEdgesTest {
    private static final String NINETY = "addBlocks(3, 9)\n".repeat(10);
    /** 38 blocks of the weight 1, and a bail of 60 that goes back as 60 more. */
    private static final String NINETY_EIGHT_BY_RETURN = Starts.STATUE + "addBlocks(1, 9)\n".repeat(4) + """
            addBlocks(1, 2) = 38
            addBlocks(20, 3) = 3
            issueWrit(0, 0, 60) = 0
            payBail(0) = 3
            passNights(1)
            """;
    private static final String MORE_THAN_99 = Starts.STATUE + "addBlocks(1, 9)\n".repeat(11) + """
            addBlocks(20, 3) = 3
            issueWrit(0, 0, 60) = 0
            payBail(0) = 3
            passNights(1)
            """;

    private final Runs runs = new Runs();

    public static void main(String[] args) {
        MarbleEdgesTest test = new MarbleEdgesTest();
        test.addBlocks();
        test.addBlocksWrongly();
        test.addBlocksUpTo99();
        test.blocksThatComeBack();
        test.thousandsOfBlocks();
        test.payBailWrongly();
        test.payBailOutOfReach();
        test.payBail();
        test.payBailWithTheFewest();
        test.payBailWithTheHeaviest();
        test.blocks();
        for (String way : new String[] {"P40: fewestBlocks", "P41: fewestBlocksBySearch"}) {
            test.fewestBlocksWrongly(way, way.substring(5));
            test.fewestBlocks(way, way.substring(5));
        }
        for (String way : new String[] {"P42: marbleTotal", "P43: marbleByAccounts"}) {
            test.marble(way, way.substring(5));
        }
        test.treasury();
        test.runs.end();
    }

    private void addBlocks() {
        runs.run("P8: the least weight", "addBlocks(1, 5) = 5", "blocks(1) = 5", "marbleTotal() = 5");
        runs.run("P8: the greatest weight", "addBlocks(20, 5) = 5", "blocks(20) = 5", "marbleTotal() = 100");
        runs.run("P8: one block", "addBlocks(7, 1) = 1", "blocks(7) = 1");
        runs.run("P8: nine blocks", "addBlocks(7, 9) = 9", "blocks(7) = 9");
        runs.run("P8: other weights stay", "addBlocks(7, 9)", "blocks(6) = 0", "blocks(8) = 0", "addBlocks(8, 1) = 1",
                "blocks(7) = 9");
    }

    private void addBlocksWrongly() {
        runs.refusesOutside("P8: too light or too heavy", Starts.RICH, "addBlocks(#, 5)", 1, 20, Starts.ARGUMENT);
        runs.refusesOutside("P8: too few or too many", Starts.RICH, "addBlocks(5, #)", 1, 9, Starts.ARGUMENT);
        runs.refusesOutside("P8: neither", Starts.RICH, "addBlocks(#, #)", 1, 20, Starts.ARGUMENT);
        runs.changesNothing("P8: the count comes before the 99 blocks: ten", Starts.FULL,
                "addBlocks(3, 10) = throws.IllegalArgumentException");
        runs.changesNothing("P8: the count comes before the 99 blocks: as many as there are", Starts.FULL,
                "addBlocks(3, 2147483647) = throws.IllegalArgumentException");
        runs.changesNothing("P8: the count comes before the 99 blocks: none", Starts.FULL,
                "addBlocks(3, 0) = throws.IllegalArgumentException");
    }

    private void addBlocksUpTo99() {
        runs.run("P8: 99 by nine", NINETY, "addBlocks(3, 9) = 99");
        runs.run("P8: 99 by one", NINETY, "addBlocks(3, 8) = 98", "addBlocks(3, 1) = 99");
        runs.changesNothing("P8: the hundredth block", Starts.FULL, "addBlocks(3, 1) = throws.IllegalStateException");
        runs.changesNothing("P8: from 98 to 100", NINETY + "addBlocks(3, 8) = 98\n",
                "addBlocks(3, 2) = throws.IllegalStateException");
        runs.changesNothing("P8: from 91 to 100", NINETY + "addBlocks(3, 1) = 91\n",
                "addBlocks(3, 9) = throws.IllegalStateException");
        runs.changesNothing("P8: from 99 to 108", Starts.FULL, "addBlocks(3, 9) = throws.IllegalStateException");
        runs.run("P8: other weights are not full", Starts.FULL, "addBlocks(2, 9) = 9", "addBlocks(4, 9) = 9");
        runs.run("P8: there is room again where blocks were paid", Starts.FULL, "undo()", "issueWrit(0, 9, 6) = 7",
                "payBail(7) = 2", "addBlocks(3, 2) = 99", "addBlocks(3, 1) = throws.IllegalStateException");
        runs.run("P8: there is room again where blocks were undone", NINETY, "addBlocks(3, 9) = 99", "undo()",
                "addBlocks(3, 9) = 99");
        String twenty = "addBlocks(20, 9)\n".repeat(11);
        runs.run("P8: 99 of the greatest weight", twenty, "blocks(20) = 99", "marbleTotal() = 1980",
                "addBlocks(20, 1) = throws.IllegalStateException");
    }

    private void blocksThatComeBack() {
        runs.run("P8: blocks that come back count", NINETY_EIGHT_BY_RETURN, "blocks(1) = 98", "addBlocks(1, 1) = 99",
                "addBlocks(1, 1) = throws.IllegalStateException");
        runs.changesNothing("P8: with those that came back too many", NINETY_EIGHT_BY_RETURN,
                "addBlocks(1, 2) = throws.IllegalStateException");
        runs.run("P8: at most 99 by adding, but more by bail that goes back", MORE_THAN_99, "blocks(1) = 159",
                "treasury() = 0", "marbleTotal() = 159", "marbleByAccounts() = 159");
        runs.changesNothing("P8: none is added to more than 99", MORE_THAN_99,
                "addBlocks(1, 1) = throws.IllegalStateException");
        runs.changesNothing("P8: the count comes before more than 99, too", MORE_THAN_99,
                "addBlocks(1, 0) = throws.IllegalArgumentException");
        runs.run("P9: more than 99 blocks can be paid with", MORE_THAN_99, "issueWrit(0, 9, 60) = 1",
                "payBail(1) = 60", "blocks(1) = 99");
    }

    private void thousandsOfBlocks() {
        StringBuilder rows = new StringBuilder(Starts.STATUE);
        for (int writ = 0; writ < 100; writ++) {
            rows.append("addBlocks(20, 3) = 3\nissueWrit(0, 0, 60)\npayBail(").append(writ).append(") = 3\n")
                    .append("passNights(1)\n");
        }
        runs.run("P39: six thousand blocks that came back", rows.toString(), "blocks(1) = 6000", "blocks(20) = 0");
        runs.run("P42: six thousand blocks that came back", rows.toString(), "marbleTotal() = 6000");
        runs.run("P43: six thousand blocks that came back", rows.toString(), "marbleByAccounts() = 6000");
        runs.run("P40: six thousand blocks that came back", rows.toString(), "fewestBlocks(60) = 60");
        runs.run("P41: six thousand blocks that came back", rows.toString(), "fewestBlocksBySearch(60) = 60");
        runs.run("P51: six thousand blocks that came back", rows.toString(), "isConsistent() = true");
    }

    private void payBailWrongly() {
        String paidWithAll = Starts.STATUE + "addBlocks(5, 1)\nissueWrit(0, 9, 5) = 0\npayBail(0) = 1\n";
        runs.changesNothing("P9: a bail that is paid", Starts.RICH, "payBail(0) = throws.IllegalStateException");
        runs.changesNothing("P9: a bail that is paid comes before blocks that do not add up", paidWithAll,
                "payBail(0) = throws.IllegalStateException");
        runs.changesNothing("P9: no such open writ comes before blocks that do not add up", paidWithAll,
                "payBail(1) = throws.NoSuchElementException");
        runs.refusesOutside("P9: no such writ", Starts.RICH_NEXT_NIGHT, "payBail(#)", 0, 2, Starts.ELEMENT);
        runs.changesNothing("P9: a writ that was paid and dismissed", paidWithAll + "hear(0) = 'd'\n",
                "payBail(0) = throws.NoSuchElementException");
    }

    private void payBailOutOfReach() {
        String thrown = " = throws.UnsupportedOperationException";
        String writ = Starts.STATUE + "issueWrit(0, 9, 30)\n";
        runs.changesNothing("P9: an empty store", writ, "payBail(0)" + thrown);
        runs.changesNothing("P9: blocks that are too light together", writ + "addBlocks(5, 5)\naddBlocks(4, 1)\n",
                "payBail(0)" + thrown);
        runs.changesNothing("P9: blocks that add up to more only", writ + "addBlocks(20, 9)\naddBlocks(11, 9)\n",
                "payBail(0)" + thrown);
        runs.changesNothing("P9: blocks that add up to one less and one more", writ
                + "addBlocks(20, 1)\naddBlocks(9, 1)\naddBlocks(11, 1)\n", "payBail(0)" + thrown);
        runs.changesNothing("P9: one block too few of the right weight", writ + "addBlocks(10, 2)\n",
                "payBail(0)" + thrown);
        runs.changesNothing("P9: beside all else", Starts.RICH, "payBail(2)" + thrown);
        runs.run("P9: paid when the missing block has come", writ, "addBlocks(10, 2)", "payBail(0)" + thrown,
                "addBlocks(10, 1)", "payBail(0) = 3", "isPaid(0) = true");
    }

    private void payBail() {
        runs.run("P9: the smallest bail", Starts.STATUE, "addBlocks(1, 1)", "issueWrit(0, 9, 1)", "payBail(0) = 1",
                "blocks(1) = 0", "treasury() = 1");
        runs.run("P9: the greatest bail with the most blocks", Starts.STATUE, "addBlocks(1, 9)\n".repeat(7),
                "issueWrit(0, 9, 60)", "payBail(0) = 60", "blocks(1) = 3", "treasury() = 60");
        runs.run("P9: the greatest bail with the fewest blocks", Starts.STATUE, "addBlocks(1, 9)\n".repeat(7),
                "addBlocks(20, 3)", "issueWrit(0, 9, 60)", "payBail(0) = 3", "blocks(1) = 63", "blocks(20) = 0");
        runs.run("P9: the last block of the store", Starts.RICH, "issueWrit(0, 9, 50) = 4", "payBail(4) = 4",
                "blocks(20) = 0", "blocks(5) = 0", "treasury() = 70");
        runs.run("P9: on the writ's last night", Starts.RICH, "passNights(9)", "payBail(1) = 2", "isPaid(1) = true");
        runs.run("P9: the writ stays open, and its bail is told", Starts.RICH, "payBail(1) = 2", "bail(1) = 40",
                "writCount() = 3", "causeOf(1) = 0", "isPaid(2) = false");
        runs.run("P9: with the blocks of the weight 1 that came back", Starts.STATUE, "addBlocks(5, 1)",
                "issueWrit(0, 0, 5)", "payBail(0) = 1", "passNights(1)", "issueWrit(0, 0, 5)", "payBail(1) = 5",
                "blocks(1) = 0", "treasury() = 5");
    }

    private void payBailWithTheFewest() {
        runs.run("P9: as few as possible, not the heaviest", Starts.STATUE, "addBlocks(20, 1)", "addBlocks(15, 2)",
                "addBlocks(1, 9)\naddBlocks(1, 1)", "issueWrit(0, 9, 30)", "payBail(0) = 2", "blocks(20) = 1",
                "blocks(15) = 0", "blocks(1) = 10");
        runs.run("P9: the heaviest would leave a rest", Starts.STATUE, "addBlocks(20, 3)", "addBlocks(7, 3)",
                "issueWrit(0, 9, 21)", "payBail(0) = 3", "blocks(20) = 3", "blocks(7) = 0");
        runs.run("P9: more of them where the fewest are used up", Starts.STATUE, "addBlocks(15, 3)", "addBlocks(5, 3)",
                "issueWrit(0, 9, 30)", "issueWrit(0, 9, 30)", "payBail(0) = 2", "payBail(1) = 4", "blocks(15) = 0",
                "blocks(5) = 0");
    }

    private void payBailWithTheHeaviest() {
        runs.run("P9: of several ways the one with the most of the weight 20", Starts.STATUE, "addBlocks(20, 1)",
                "addBlocks(10, 1)", "addBlocks(15, 2)", "issueWrit(0, 9, 30)", "payBail(0) = 2", "blocks(20) = 0",
                "blocks(10) = 0", "blocks(15) = 2");
        runs.run("P9: of several ways the one with the most of the weight 19", Starts.STATUE, "addBlocks(19, 1)",
                "addBlocks(1, 1)", "addBlocks(18, 1)", "addBlocks(2, 1)", "issueWrit(0, 9, 20)", "payBail(0) = 2",
                "blocks(19) = 0", "blocks(1) = 0", "blocks(18) = 1", "blocks(2) = 1");
        runs.run("P9: one of the weight 20 counts more than two of the weight 19", Starts.STATUE, "addBlocks(20, 1)",
                "addBlocks(19, 2)", "addBlocks(18, 1)", "addBlocks(2, 1)", "issueWrit(0, 9, 40)",
                "payBail(0) = 3", "blocks(20) = 0", "blocks(18) = 0", "blocks(2) = 0", "blocks(19) = 2");
        runs.run("P9: the same of the weight 20, then the most of the next", Starts.STATUE, "addBlocks(20, 1)",
                "addBlocks(12, 1)", "addBlocks(8, 1)", "addBlocks(11, 1)", "addBlocks(9, 1)", "addBlocks(10, 2)",
                "issueWrit(0, 9, 40)", "payBail(0) = 3", "blocks(12) = 0", "blocks(8) = 0", "blocks(11) = 1",
                "blocks(9) = 1", "blocks(10) = 2");
        runs.run("P9: down to the lightest", Starts.STATUE, "addBlocks(5, 1)", "addBlocks(1, 1)", "addBlocks(4, 1)",
                "addBlocks(2, 1)", "addBlocks(3, 2)", "issueWrit(0, 9, 6)", "payBail(0) = 2", "blocks(5) = 0",
                "blocks(1) = 0", "blocks(4) = 1", "blocks(2) = 1", "blocks(3) = 2");
    }

    private void blocks() {
        runs.refusesOutside("P39: too light or too heavy", Starts.RICH, "blocks(#)", 1, 20, Starts.ARGUMENT);
        runs.refusesOutside("P39: too light or too heavy for an empty store", "", "blocks(#)", 1, 20, Starts.ARGUMENT);
        runs.changesNothing("P39: the least weight", Starts.FULL + "addBlocks(1, 7)\n", "blocks(1) = 7");
        runs.changesNothing("P39: the greatest weight", Starts.RICH, "blocks(20) = 2");
        runs.changesNothing("P39: none", Starts.RICH, "blocks(19) = 0");
        runs.changesNothing("P39: 99", Starts.FULL, "blocks(3) = 99");
        runs.changesNothing("P39: more than 99", MORE_THAN_99, "blocks(1) = 159");
    }

    private void fewestBlocksWrongly(String title, String way) {
        String none = " = throws.UnsupportedOperationException";
        runs.refusesOutside(title + ", too small or too large", Starts.FULL, way + "(#)", 1, 60, Starts.ARGUMENT);
        runs.refusesOutside(title + ", the amount comes before blocks that do not add up", Starts.STATUE, way + "(#)",
                1, 60, Starts.ARGUMENT);
        runs.changesNothing(title + " of an empty store, the least amount", Starts.STATUE, way + "(1)" + none);
        runs.changesNothing(title + " of an empty store, the greatest amount", "", way + "(60)" + none);
        runs.changesNothing(title + ", one less than a block weighs", "addBlocks(20, 9)\n", way + "(19)" + none);
        runs.changesNothing(title + ", one more than all blocks weigh", "addBlocks(20, 1)\naddBlocks(5, 2)\n",
                way + "(31)" + none);
        runs.changesNothing(title + ", one block too few", "addBlocks(20, 2)\n", way + "(60)" + none);
        runs.changesNothing(title + ", the weights do not add up", Starts.FULL, way + "(59)" + none);
        runs.changesNothing(title + ", the blocks were paid", Starts.RICH, way + "(60)" + none);
    }

    private void fewestBlocks(String title, String way) {
        runs.changesNothing(title + ", the least amount", "addBlocks(1, 1)\n", way + "(1) = 1");
        runs.changesNothing(title + ", the greatest amount", "addBlocks(20, 3)\n", way + "(60) = 3");
        runs.changesNothing(title + ", the greatest number of blocks", MORE_THAN_99, way + "(60) = 60");
        runs.changesNothing(title + ", all blocks there are", "addBlocks(20, 1)\naddBlocks(5, 2)\n", way + "(30) = 3");
        runs.changesNothing(title + ", 99 blocks", Starts.FULL, way + "(60) = 20");
        runs.changesNothing(title + ", fewer without the heaviest", "addBlocks(20, 1)\naddBlocks(1, 9)\n"
                + "addBlocks(13, 2)\n", way + "(26) = 2");
        runs.changesNothing(title + ", one fewer without the heaviest", "addBlocks(20, 1)\naddBlocks(9, 1)\n"
                + "addBlocks(1, 1)\naddBlocks(15, 2)\n", way + "(30) = 2");
        runs.changesNothing(title + ", one more with less of the heaviest", "addBlocks(20, 2)\naddBlocks(10, 2)\n",
                way + "(40) = 2");
        runs.changesNothing(title + ", what the heaviest leaves cannot be had", "addBlocks(20, 3)\naddBlocks(7, 3)\n",
                way + "(21) = 3");
        runs.changesNothing(title + ", fewer with less of the heaviest", "addBlocks(20, 3)\naddBlocks(16, 2)\n"
                + "addBlocks(1, 9)\naddBlocks(1, 3)\n", way + "(52) = 3");
        runs.changesNothing(title + " as payBail takes them", Starts.RICH, way + "(40) = 2");
    }

    private void marble(String title, String way) {
        runs.changesNothing(title + ", none", "", way + "() = 0");
        runs.changesNothing(title + " in the store and in the treasury", Starts.RICH, way + "() = 70");
        runs.changesNothing(title + " where all is in the treasury", Starts.RICH
                + "issueWrit(0, 9, 50)\npayBail(4) = 4\n", way + "() = 70");
        runs.changesNothing(title + " where bail has gone back", Starts.RICH + "passNights(10)\n", way + "() = 70");
        runs.changesNothing(title + " where a paid writ was upheld", Starts.RICH_NEXT_NIGHT
                + "setHome(0, 3)\nhear(0) = 'u'\npassNights(20)\n", way + "() = 70");
        runs.changesNothing(title + " where blocks were undone", Starts.RICH + "addBlocks(9, 9)\nundo()\n",
                way + "() = 70");
        runs.changesNothing(title + " where blocks were refused", Starts.FULL
                + "addBlocks(3, 1) = throws.IllegalStateException\n", way + "() = 297");
        runs.changesNothing(title + " where a snapshot was restored", Starts.RICH + "restore()\n", way + "() = 0");
    }

    private void treasury() {
        runs.changesNothing("P44: nothing", "", "treasury() = 0");
        runs.changesNothing("P44: blocks in the store do not count", Starts.FULL, "treasury() = 0");
        runs.changesNothing("P44: a bail", Starts.RICH, "treasury() = 20");
        runs.changesNothing("P44: two bails", Starts.RICH + "payBail(1) = 2\n", "treasury() = 60");
        runs.changesNothing("P44: nothing again", Starts.RICH + "passNights(10)\n", "treasury() = 0");
    }
}
