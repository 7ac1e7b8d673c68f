/** Promises 6, 7, 27 to 35 and 38: a test for each edge that the document names, titled with its promise. */
public final class WritEdgesTest {
    private static final String CHAIN = Starts.STATUE + """
            issueWrit(0, 9, 10) = 0
            issueFollower(0, 9, 10, 0) = 1
            issueFollower(0, 9, 10, 1) = 2
            issueFollower(0, 9, 10, 2) = 3
            issueFollower(0, 9, 10, 3) = 4
            issueFollower(0, 9, 10, 4) = 5
            issueFollower(0, 9, 10, 5) = 6
            issueFollower(0, 9, 10, 6) = 7
            """;
    private static final String STAR = Starts.STATUE + "issueWrit(0, 9, 10) = 0\n"
            + "issueFollower(0, 9, 10, 0)\n".repeat(7);
    /** Writ 0 lapses on night 1, writ 1 follows it, and writ 2 follows writ 1. */
    private static final String LAPSING_CAUSE = Starts.STATUE + """
            issueWrit(0, 0, 10) = 0
            issueFollower(0, 9, 10, 0) = 1
            issueFollower(0, 9, 10, 1) = 2
            """;

    private final Runs runs = new Runs();

    public static void main(String[] args) {
        WritEdgesTest test = new WritEdgesTest();
        test.issueWrit();
        test.ids();
        test.issueWritWrongly();
        test.issueWritWithSeveralFaults();
        test.issueFollower();
        test.issueFollowerWrongly();
        test.issueFollowerOfNoOpenWrit();
        test.issueFollowerWithSeveralFaults();
        test.writCount();
        test.writAt();
        test.noSuchWrit();
        test.readWrit();
        test.causeOf();
        test.causeDepth();
        test.followers();
        test.writByLastNight();
        test.runs.end();
    }

    private void issueWrit() {
        runs.run("P6: 0 nights: its last night is tonight", Starts.RICH, "passNights(3)", "issueWrit(0, 0, 5) = 4",
                "lastNight(4) = 3");
        runs.run("P6: 20 nights", Starts.RICH, "passNights(3)", "issueWrit(0, 20, 5) = 4", "lastNight(4) = 23");
        runs.run("P6: the smallest bail", Starts.RICH, "issueWrit(0, 5, 1) = 4", "bail(4) = 1");
        runs.run("P6: the greatest bail", Starts.RICH, "issueWrit(0, 5, 60) = 4", "bail(4) = 60");
        runs.run("P6: the first statue", Starts.RICH, "issueWrit(0, 5, 5) = 4", "statueOf(4) = 0");
        runs.run("P6: the last statue", Starts.RICH, "issueWrit(2, 5, 5) = 4", "statueOf(4) = 2");
        runs.run("P6: the eighth writ is issued", Starts.FULL, "undo()", "issueWrit(5, 20, 60) = 7",
                "writCount() = 8");
        runs.run("P6: it has no cause", Starts.RICH, "issueWrit(0, 5, 5) = 4",
                "causeOf(4) = throws.NoSuchElementException", "causeDepth(4) = 0");
        runs.run("P6: its bail is not paid initially", Starts.RICH, "issueWrit(0, 5, 5) = 4", "isPaid(4) = false");
        runs.run("P6: nor is it where a paid writ was closed", Starts.STATUE, "addBlocks(5, 2)",
                "issueWrit(0, 5, 5) = 0", "payBail(0) = 1", "hear(0) = 'd'", "issueWrit(0, 5, 5) = 1",
                "isPaid(1) = false", "isBound(0) = true");
        runs.run("P6: nor does it have the cause of a closed one", Starts.STATUE, "issueWrit(0, 9, 5) = 0",
                "issueFollower(0, 9, 5, 0) = 1", "hear(1) = 'd'", "issueWrit(0, 9, 5) = 2",
                "causeOf(2) = throws.NoSuchElementException");
    }

    private void ids() {
        runs.run("P6: each further writ has the id of the one before plus 1", Starts.STATUE, "issueWrit(0, 9, 5) = 0",
                "issueFollower(0, 9, 5, 0) = 1", "issueWrit(0, 9, 5) = 2");
        runs.run("P6: the id of a writ that was upheld is not given again", Starts.RICH, "issueWrit(0, 5, 5) = 4");
        runs.run("P6: nor that of one that was dismissed", Starts.STATUE, "issueWrit(0, 5, 5) = 0", "hear(0) = 'd'",
                "issueWrit(0, 5, 5) = 1");
        runs.run("P6: nor that of one that has lapsed", Starts.STATUE, "issueWrit(0, 0, 5) = 0", "passNights(1)",
                "issueWrit(0, 5, 5) = 1");
        runs.run("P6: a refused writ takes no id", Starts.STATUE,
                "issueWrit(0, 21, 5) = throws.IllegalArgumentException",
                "issueWrit(1, 5, 5) = throws.IndexOutOfBoundsException", "issueWrit(0, 5, 5) = 0");
        runs.run("P7: a refused follower takes no id", Starts.STATUE,
                "issueFollower(0, 5, 5, 0) = throws.NoSuchElementException", "issueWrit(0, 5, 5) = 0");
        runs.run("P6: an undone writ's id is given again", Starts.STATUE, "issueWrit(0, 5, 5) = 0", "undo()",
                "issueWrit(0, 5, 5) = 0");
        runs.run("P6: ids of two digits", Starts.FULL, "passNights(11)", "issueWrit(0, 5, 5)\n".repeat(3),
                "writAt(2) = 10", "statueOf(10) = 0");
        runs.run("P6: ids of three digits", Starts.STATUE, "issueWrit(0, 0, 5)\npassNights(1)\n".repeat(250),
                "issueWrit(0, 9, 5) = 250", "issueFollower(0, 9, 5, 250) = 251", "causeOf(251) = 250",
                "lapsedTotal() = 250");
    }

    private void issueWritWrongly() {
        runs.refusesOutside("P6: no such statue", Starts.RICH, "issueWrit(#, 9, 5)", 0, 2, Starts.BOUNDS);
        runs.refusesOutside("P6: too few or too many nights", Starts.RICH, "issueWrit(0, #, 5)", 0, 20,
                Starts.ARGUMENT);
        runs.refusesOutside("P6: too little or too much bail", Starts.RICH, "issueWrit(0, 9, #)", 1, 60,
                Starts.ARGUMENT);
        runs.refusesOutside("P6: neither nights nor bail", Starts.RICH, "issueWrit(0, #, #)", 0, 60, Starts.ARGUMENT);
        runs.changesNothing("P6: a ninth writ", Starts.FULL, "issueWrit(0, 9, 5) = throws.IllegalStateException");
        runs.changesNothing("P6: without statues", Starts.FOUR_PEDESTALS,
                "issueWrit(0, 9, 5) = throws.IndexOutOfBoundsException");
        runs.run("P6: there is room again where a writ was dismissed", Starts.FULL, "hear(3) = 'd'",
                "issueWrit(0, 9, 5) = 8", "issueWrit(0, 9, 5) = throws.IllegalStateException");
        runs.run("P6: there is room again where a writ was upheld", Starts.FULL, "setHome(0, 7)", "hear(3) = 'u'",
                "issueWrit(0, 9, 5) = 8", "issueWrit(0, 9, 5) = throws.IllegalStateException");
        runs.run("P6: there is room again where all writs have lapsed", Starts.FULL, "passNights(10)",
                "issueWrit(0, 9, 5) = 8", "writCount() = 1");
        runs.run("P6: a bail that is paid leaves its writ open", Starts.FULL, "undo()", "issueWrit(0, 9, 6) = 7",
                "payBail(7) = 2", "issueWrit(0, 9, 5) = throws.IllegalStateException");
    }

    private void issueWritWithSeveralFaults() {
        runs.changesNothing("P6: no such statue comes before the nights", Starts.RICH,
                "issueWrit(3, 21, 5) = throws.IndexOutOfBoundsException");
        runs.changesNothing("P6: no such statue comes before the bail", Starts.RICH,
                "issueWrit(-1, 5, 0) = throws.IndexOutOfBoundsException");
        runs.changesNothing("P6: no such statue comes before the eight writs", Starts.FULL,
                "issueWrit(6, 5, 5) = throws.IndexOutOfBoundsException");
        runs.changesNothing("P6: no such statue comes before both", Starts.FULL,
                "issueWrit(6, -1, 61) = throws.IndexOutOfBoundsException");
        runs.changesNothing("P6: the nights come before the eight writs", Starts.FULL,
                "issueWrit(0, -1, 5) = throws.IllegalArgumentException");
        runs.changesNothing("P6: the bail comes before the eight writs", Starts.FULL,
                "issueWrit(0, 5, 61) = throws.IllegalArgumentException");
    }

    private void issueFollower() {
        runs.run("P7: 0 nights: its last night is tonight", Starts.RICH, "passNights(3)",
                "issueFollower(0, 0, 5, 0) = 4", "lastNight(4) = 3");
        runs.run("P7: 20 nights, more than its cause has", Starts.RICH, "issueFollower(0, 20, 5, 0) = 4",
                "lastNight(4) = 20");
        runs.run("P7: the smallest bail", Starts.RICH, "issueFollower(0, 5, 1, 0) = 4", "bail(4) = 1");
        runs.run("P7: the greatest bail", Starts.RICH, "issueFollower(0, 5, 60, 0) = 4", "bail(4) = 60");
        runs.run("P7: the last statue", Starts.RICH, "issueFollower(2, 5, 5, 0) = 4", "statueOf(4) = 2");
        runs.run("P7: the eighth writ is issued", Starts.FULL, "undo()", "issueFollower(5, 20, 60, 6) = 7",
                "causeOf(7) = 6", "writCount() = 8");
        runs.run("P7: the first open writ as the cause", Starts.RICH, "issueFollower(0, 5, 5, 0) = 4",
                "causeOf(4) = 0");
        runs.run("P7: the last open writ as the cause", Starts.RICH, "issueFollower(0, 5, 5, 2) = 4",
                "causeOf(4) = 2", "causeDepth(4) = 3");
        runs.run("P7: a cause that is paid", Starts.RICH, "isPaid(0) = true", "issueFollower(0, 5, 5, 0) = 4",
                "isPaid(4) = false");
        runs.run("P7: a cause on its last night", Starts.RICH, "passNights(9)", "issueFollower(0, 5, 5, 0) = 4",
                "causeOf(4) = 0");
        runs.run("P7: its bail is not paid initially", Starts.STATUE, "addBlocks(5, 2)", "issueWrit(0, 5, 5) = 0",
                "issueWrit(0, 5, 5) = 1", "payBail(1) = 1", "hear(1) = 'd'", "issueFollower(0, 5, 5, 0) = 2",
                "isPaid(2) = false", "isBound(0) = true");
    }

    private void issueFollowerWrongly() {
        runs.refusesOutside("P7: no such statue", Starts.RICH, "issueFollower(#, 9, 5, 0)", 0, 2, Starts.BOUNDS);
        runs.refusesOutside("P7: too few or too many nights", Starts.RICH, "issueFollower(0, #, 5, 0)", 0, 20,
                Starts.ARGUMENT);
        runs.refusesOutside("P7: too little or too much bail", Starts.RICH, "issueFollower(0, 9, #, 0)", 1, 60,
                Starts.ARGUMENT);
        runs.refusesOutside("P7: the cause is not an open writ", Starts.RICH, "issueFollower(0, 9, 5, #)", 0, 2,
                Starts.ELEMENT);
        runs.changesNothing("P7: a ninth writ", Starts.FULL,
                "issueFollower(0, 9, 5, 7) = throws.IllegalStateException");
        runs.changesNothing("P7: without statues", Starts.FOUR_PEDESTALS,
                "issueFollower(0, 9, 5, 0) = throws.IndexOutOfBoundsException");
        runs.run("P7: there is room again where a writ was dismissed", Starts.FULL, "hear(3) = 'd'",
                "issueFollower(0, 9, 5, 4) = 8", "issueFollower(0, 9, 5, 4) = throws.IllegalStateException");
    }

    private void issueFollowerOfNoOpenWrit() {
        runs.changesNothing("P7: without writs", Starts.STATUE,
                "issueFollower(0, 9, 5, 0) = throws.NoSuchElementException");
        runs.changesNothing("P7: the id that it would get itself", Starts.RICH,
                "issueFollower(0, 9, 5, 4) = throws.NoSuchElementException");
        runs.changesNothing("P7: a cause that was upheld", Starts.RICH,
                "issueFollower(0, 9, 5, 3) = throws.NoSuchElementException");
        runs.changesNothing("P7: a cause that was dismissed", Starts.STATUE + "issueWrit(0, 9, 5)\nhear(0) = 'd'\n",
                "issueFollower(0, 9, 5, 0) = throws.NoSuchElementException");
        runs.changesNothing("P7: a cause that has lapsed", LAPSING_CAUSE + "passNights(1)\n",
                "issueFollower(0, 9, 5, 0) = throws.NoSuchElementException");
        runs.changesNothing("P7: a cause that was undone", LAPSING_CAUSE + "undo()\n",
                "issueFollower(0, 9, 5, 2) = throws.NoSuchElementException");
    }

    private void issueFollowerWithSeveralFaults() {
        runs.changesNothing("P7: no such statue comes before the nights", Starts.RICH,
                "issueFollower(3, 21, 5, 0) = throws.IndexOutOfBoundsException");
        runs.changesNothing("P7: no such statue comes before the bail", Starts.RICH,
                "issueFollower(-1, 5, 61, 0) = throws.IndexOutOfBoundsException");
        runs.changesNothing("P7: no such statue comes before the cause", Starts.RICH,
                "issueFollower(3, 5, 5, 9) = throws.IndexOutOfBoundsException");
        runs.changesNothing("P7: no such statue comes before the eight writs", Starts.FULL,
                "issueFollower(6, 5, 5, 0) = throws.IndexOutOfBoundsException");
        runs.changesNothing("P7: the nights come before the cause", Starts.RICH,
                "issueFollower(0, 21, 5, 9) = throws.IllegalArgumentException");
        runs.changesNothing("P7: the bail comes before the cause", Starts.RICH,
                "issueFollower(0, 5, 0, 3) = throws.IllegalArgumentException");
        runs.changesNothing("P7: the nights come before the eight writs", Starts.FULL,
                "issueFollower(0, -1, 5, 0) = throws.IllegalArgumentException");
        runs.changesNothing("P7: the bail comes before the eight writs", Starts.FULL,
                "issueFollower(0, 5, 0, 0) = throws.IllegalArgumentException");
        runs.changesNothing("P7: the cause comes before the eight writs", Starts.FULL,
                "issueFollower(0, 5, 5, 8) = throws.NoSuchElementException");
        runs.changesNothing("P7: no such statue comes before all", Starts.FULL,
                "issueFollower(-1, -1, 0, -1) = throws.IndexOutOfBoundsException");
        runs.changesNothing("P7: the nights come before the rest", Starts.FULL,
                "issueFollower(0, -1, 5, -1) = throws.IllegalArgumentException");
    }

    private void writCount() {
        runs.changesNothing("P27: none", Starts.STATUE, "writCount() = 0");
        runs.changesNothing("P27: a writ that was upheld does not count", Starts.RICH, "writCount() = 3");
        runs.changesNothing("P27: eight", Starts.FULL, "writCount() = 8");
        runs.run("P27: none again when all have lapsed", Starts.FULL, "passNights(9)", "writCount() = 8",
                "passNights(1)", "writCount() = 0");
    }

    private void writAt() {
        runs.refusesOutside("P28: no such position", Starts.RICH, "writAt(#)", 0, 2, Starts.ELEMENT);
        runs.refusesOutside("P28: a position beyond eight", Starts.FULL, "writAt(#)", 0, 7, Starts.ELEMENT);
        runs.changesNothing("P28: without writs", Starts.STATUE, "writAt(0) = throws.NoSuchElementException");
        runs.changesNothing("P28: the first position", Starts.RICH, "writAt(0) = 0");
        runs.changesNothing("P28: the last position", Starts.RICH, "writAt(2) = 2");
        runs.changesNothing("P28: the eighth position", Starts.FULL, "writAt(7) = 7");
        runs.run("P28: where the first writ was closed", Starts.FULL, "hear(0)", "writAt(0) = 1", "writAt(6) = 7",
                "writAt(7) = throws.NoSuchElementException");
        runs.run("P28: where the last writ was closed", Starts.FULL, "hear(7)", "writAt(6) = 6",
                "writAt(7) = throws.NoSuchElementException");
        runs.run("P28: where one between was closed and one was issued", Starts.FULL, "hear(3)",
                "issueWrit(0, 0, 60) = 8", "writAt(2) = 2", "writAt(3) = 4", "writAt(7) = 8");
    }

    private void noSuchWrit() {
        for (String call : new String[] {"P9: payBail", "P10: hear", "P29: statueOf", "P30: lastNight", "P31: bail",
                "P32: isPaid", "P33: causeOf", "P34: causeDepth", "P35: followers", "P53: renderWrit"}) {
            String name = call.substring(call.indexOf(' ') + 1);
            String thrown = " = throws.NoSuchElementException";
            runs.refusesOutside(call + ", no such writ or an upheld one", Starts.RICH, name + "(#)", 0, 2,
                    Starts.ELEMENT);
            runs.refusesOutside(call + ", an id beyond eight", Starts.FULL, name + "(#)", 0, 7, Starts.ELEMENT);
            runs.changesNothing(call + " of the next writ", Starts.RICH, name + "(4)" + thrown);
            runs.changesNothing(call + " without writs", Starts.STATUE, name + "(0)" + thrown);
            runs.changesNothing(call + " without anything", "", name + "(0)" + thrown);
            runs.changesNothing(call + " of a dismissed writ", Starts.STATUE
                    + "issueWrit(0, 9, 5)\nissueWrit(0, 9, 5)\nhear(0) = 'd'\npassNights(1)\n", name + "(0)" + thrown);
            runs.changesNothing(call + " of a dismissed follower", Starts.STATUE
                    + "issueWrit(0, 9, 5)\nissueFollower(0, 9, 5, 0)\nhear(0) = 'd'\npassNights(1)\n",
                    name + "(1)" + thrown);
            runs.changesNothing(call + " of a lapsed writ", LAPSING_CAUSE + "passNights(1)\n", name + "(0)" + thrown);
            runs.changesNothing(call + " of an undone writ", LAPSING_CAUSE + "undo()\n", name + "(2)" + thrown);
        }
    }

    private void readWrit() {
        runs.changesNothing("P29: the first writ", Starts.RICH, "statueOf(0) = 0");
        runs.changesNothing("P29: the last writ", Starts.RICH, "statueOf(2) = 2");
        runs.changesNothing("P30: the first writ", Starts.RICH, "lastNight(0) = 9");
        runs.changesNothing("P31: the first writ", Starts.RICH, "bail(0) = 20");
        runs.changesNothing("P31: the last writ", Starts.RICH, "bail(2) = 7");
        runs.changesNothing("P32: it is paid", Starts.RICH, "isPaid(0) = true");
        runs.changesNothing("P32: it is not paid", Starts.RICH, "isPaid(1) = false");
        runs.run("P29: where the writ before it was closed", Starts.RICH_NEXT_NIGHT, "setHome(0, 3)", "hear(0) = 'u'",
                "statueOf(1) = 1", "lastNight(1) = 9", "bail(1) = 40", "isPaid(1) = false", "bail(2) = 7");
    }

    private void causeOf() {
        runs.changesNothing("P33: it has no cause", Starts.RICH, "causeOf(0) = throws.NoSuchElementException");
        runs.changesNothing("P33: the cause is writ 0", Starts.RICH, "causeOf(1) = 0");
        runs.changesNothing("P33: the cause has a cause", Starts.RICH, "causeOf(2) = 1");
        runs.run("P33: none where its cause has lapsed", LAPSING_CAUSE, "passNights(1)",
                "causeOf(1) = throws.NoSuchElementException", "causeOf(2) = 1");
        runs.run("P33: none where its cause was upheld", LAPSING_CAUSE, "setHome(0, 3)", "hear(1) = 'u'",
                "causeOf(2) = throws.NoSuchElementException", "writCount() = 2");
        runs.run("P33: of an open writ without a cause as of no open writ", LAPSING_CAUSE, "hear(1) = 'd'",
                "causeOf(0) = throws.NoSuchElementException", "causeOf(1) = throws.NoSuchElementException",
                "causeOf(2) = throws.NoSuchElementException");
    }

    private void causeDepth() {
        runs.changesNothing("P34: 0 without a cause", Starts.RICH, "causeDepth(0) = 0");
        runs.changesNothing("P34: 1 with a cause that has none", Starts.RICH, "causeDepth(1) = 1");
        runs.changesNothing("P34: 7 at the end of eight writs", CHAIN, "causeDepth(7) = 7");
        runs.changesNothing("P34: 1 for each of seven followers of one", STAR, "causeDepth(7) = 1");
        runs.run("P34: less where a cause among them was upheld", CHAIN, "setHome(0, 3)", "hear(3) = 'u'",
                "causeDepth(2) = 2", "causeDepth(4) = 0", "causeDepth(7) = 3");
        runs.run("P34: less where a cause has lapsed", LAPSING_CAUSE, "causeDepth(2) = 2", "passNights(1)",
                "causeDepth(1) = 0", "causeDepth(2) = 1");
    }

    private void followers() {
        runs.changesNothing("P35: none", Starts.RICH, "followers(2) = 0");
        runs.changesNothing("P35: its followers' followers count", Starts.RICH, "followers(0) = 2");
        runs.changesNothing("P35: a row of seven", CHAIN, "followers(0) = 7");
        runs.changesNothing("P35: the end of a row of seven", CHAIN, "followers(7) = 0");
        runs.changesNothing("P35: its cause does not count", CHAIN, "followers(6) = 1");
        runs.changesNothing("P35: seven at once", STAR, "followers(0) = 7");
        runs.changesNothing("P35: the cause's other followers do not count", STAR, "followers(3) = 0");
        runs.run("P35: fewer where one among them was upheld", CHAIN, "setHome(0, 3)", "hear(3) = 'u'",
                "followers(0) = 2", "followers(4) = 3");
        runs.run("P35: only open writs count", Starts.STATUE, "issueWrit(0, 9, 5)", "issueFollower(0, 0, 5, 0)",
                "followers(0) = 1", "passNights(1)", "followers(0) = 0");
    }

    private void writByLastNight() {
        runs.refusesOutside("P38: no such rank", Starts.RICH, "writByLastNight(#)", 0, 2, Starts.ELEMENT);
        runs.refusesOutside("P38: a rank beyond eight", Starts.FULL, "writByLastNight(#)", 0, 7, Starts.ELEMENT);
        runs.changesNothing("P38: without writs", Starts.STATUE, "writByLastNight(0) = throws.NoSuchElementException");
        runs.changesNothing("P38: of the same last night the greatest bail is first", Starts.RICH,
                "writByLastNight(0) = 1");
        runs.changesNothing("P38: of the same last night the smallest bail is last", Starts.RICH,
                "writByLastNight(2) = 2");
        runs.changesNothing("P38: of the same bail, too, the lowest id is first", Starts.FULL,
                "writByLastNight(0) = 0");
        runs.changesNothing("P38: of the same bail, too, the highest id is last", Starts.FULL,
                "writByLastNight(7) = 7");
        runs.run("P38: an earlier last night comes before a greater bail", Starts.RICH, "issueWrit(0, 8, 1) = 4",
                "issueWrit(0, 10, 60) = 5", "writByLastNight(0) = 4", "writByLastNight(1) = 1",
                "writByLastNight(4) = 5");
        runs.run("P38: a closed writ leaves its rank to the next", Starts.FULL, "hear(0)", "writByLastNight(0) = 1",
                "writByLastNight(7) = throws.NoSuchElementException");
    }
}
