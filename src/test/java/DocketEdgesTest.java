/** Promises 36, 37 and 51: a test for each edge that the document names, titled with its promise. */
public final class DocketEdgesTest {
    private static final String PAIR = Starts.STATUE + "issueWrit(0, 0, 30)\nissueWrit(0, 1, 20)\n";
    private static final String EIGHT_FOR_EIGHT_NIGHTS = Starts.STATUE + """
            issueWrit(0, 7, 8)
            issueWrit(0, 6, 7)
            issueWrit(0, 5, 6)
            issueWrit(0, 4, 5)
            issueWrit(0, 3, 4)
            issueWrit(0, 2, 3)
            issueWrit(0, 1, 2)
            issueWrit(0, 0, 1)
            """;
    private static final String EIGHT_FOR_ONE_NIGHT = Starts.STATUE + """
            issueWrit(0, 0, 8)
            issueWrit(0, 0, 7)
            issueWrit(0, 0, 60)
            issueWrit(0, 0, 5)
            issueWrit(0, 0, 4)
            issueWrit(0, 0, 3)
            issueWrit(0, 0, 2)
            issueWrit(0, 0, 1)
            """;

    private final Runs runs = new Runs();

    public static void main(String[] args) {
        DocketEdgesTest test = new DocketEdgesTest();
        for (String way : new String[] {"P36: docketValue", "P37: docketValueBySets"}) {
            test.noWrits(way, way.substring(5));
            test.tonight(way, way.substring(5));
            test.tooFewNights(way, way.substring(5));
            test.afterAHearing(way, way.substring(5));
            test.afterNights(way, way.substring(5));
        }
        test.isConsistent();
        test.runs.end();
    }

    private void noWrits(String title, String way) {
        runs.changesNothing(title + ", 0 of an empty chancery", "", way + "() = 0");
        runs.changesNothing(title + ", 0 without writs", Starts.STATUE, way + "() = 0");
        runs.changesNothing(title + ", 0 where all writs have lapsed", PAIR + "passNights(2)\n", way + "() = 0");
        runs.changesNothing(title + ", 0 where the only writ was dismissed", Starts.STATUE
                + "issueWrit(0, 9, 60)\nhear(0) = 'd'\n", way + "() = 0");
    }

    private void tonight(String title, String way) {
        runs.changesNothing(title + ", tonight is the last night", Starts.STATUE + "issueWrit(0, 0, 60)\n",
                way + "() = 60");
        runs.changesNothing(title + ", one for each of two nights", PAIR, way + "() = 50");
        runs.changesNothing(title + ", eight for eight nights", EIGHT_FOR_EIGHT_NIGHTS, way + "() = 36");
        runs.changesNothing(title + ", eight with nights to spare", Starts.STATUE
                + "issueWrit(0, 20, 60)\n".repeat(8), way + "() = 480");
        runs.changesNothing(title + ", a paid bail counts, too", Starts.RICH, way + "() = 67");
        runs.changesNothing(title + ", a follower has its own night", Starts.STATUE
                + "issueWrit(0, 3, 5)\nissueFollower(0, 0, 9, 0)\n", way + "() = 14");
    }

    private void tooFewNights(String title, String way) {
        runs.changesNothing(title + ", two for one night", Starts.STATUE + "issueWrit(0, 0, 20)\nissueWrit(0, 0, 30)\n",
                way + "() = 30");
        runs.changesNothing(title + ", two of the same bail for one night", Starts.STATUE
                + "issueWrit(0, 0, 30)\nissueWrit(0, 0, 30)\n", way + "() = 30");
        runs.changesNothing(title + ", eight for one night", EIGHT_FOR_ONE_NIGHT, way + "() = 60");
        runs.changesNothing(title + ", three for two nights, the first is given up", Starts.STATUE
                + "issueWrit(0, 0, 5)\nissueWrit(0, 1, 30)\nissueWrit(0, 1, 20)\n", way + "() = 50");
        runs.changesNothing(title + ", three for two nights, the last is given up", Starts.STATUE
                + "issueWrit(0, 0, 30)\nissueWrit(0, 1, 20)\nissueWrit(0, 1, 5)\n", way + "() = 50");
        runs.changesNothing(title + ", a later night is of no use to an early writ", Starts.STATUE
                + "issueWrit(0, 0, 30)\nissueWrit(0, 0, 20)\nissueWrit(0, 9, 5)\n", way + "() = 35");
        runs.changesNothing(title + ", two for each of four nights", Starts.STATUE
                + "issueWrit(0, 0, 1)\nissueWrit(0, 0, 2)\nissueWrit(0, 1, 3)\nissueWrit(0, 1, 4)\n"
                + "issueWrit(0, 2, 5)\nissueWrit(0, 2, 6)\nissueWrit(0, 3, 7)\nissueWrit(0, 3, 8)\n", way + "() = 26");
    }

    private void afterAHearing(String title, String way) {
        runs.changesNothing(title + ", behind a hearing, a last night that is tonight", Starts.STATUE
                + "issueWrit(0, 0, 30)\nissueWrit(0, 0, 20)\nhear(0) = 'd'\n", way + "() = 0");
        runs.changesNothing(title + ", behind a hearing, a last night that is the next", Starts.STATUE
                + "issueWrit(0, 0, 30)\nissueWrit(0, 1, 20)\nhear(0) = 'd'\n", way + "() = 20");
        runs.changesNothing(title + ", behind a hearing, two for the next night", Starts.STATUE
                + "issueWrit(0, 0, 30)\nissueWrit(0, 1, 20)\nissueWrit(0, 1, 25)\nhear(0) = 'd'\n", way + "() = 25");
        runs.changesNothing(title + ", behind a hearing, eight for seven nights", EIGHT_FOR_EIGHT_NIGHTS
                + "hear(7) = 'd'\nissueWrit(0, 7, 60) = 8\n", way + "() = 93");
        runs.changesNothing(title + ", behind an undone hearing", PAIR + "hear(1) = 'd'\nundo()\n", way + "() = 50");
        runs.changesNothing(title + ", behind a refused hearing", PAIR + "hear(9) = throws.NoSuchElementException\n",
                way + "() = 50");
        runs.changesNothing(title + ", on the night behind a hearing", Starts.STATUE
                + "issueWrit(0, 0, 30)\nissueWrit(0, 1, 20)\nissueWrit(0, 1, 25)\nhear(0) = 'd'\npassNights(1)\n",
                way + "() = 25");
        runs.changesNothing(title + ", behind an upheld writ", Starts.RICH, way + "() = 67");
    }

    private void afterNights(String title, String way) {
        runs.changesNothing(title + ", where a night has gone", EIGHT_FOR_EIGHT_NIGHTS + "passNights(1)\n",
                way + "() = 35");
        runs.changesNothing(title + ", on the last night of three", Starts.STATUE
                + "issueWrit(0, 9, 30)\nissueWrit(0, 9, 20)\nissueWrit(0, 9, 10)\npassNights(9)\n", way + "() = 30");
        runs.changesNothing(title + ", on the last night but one of three", Starts.STATUE
                + "issueWrit(0, 9, 10)\nissueWrit(0, 9, 20)\nissueWrit(0, 9, 30)\npassNights(8)\n", way + "() = 50");
    }

    private void isConsistent() {
        runs.changesNothing("P51: an empty chancery", "", "isConsistent() = true");
        runs.changesNothing("P51: pedestals without statues", Starts.EIGHT_PEDESTALS, "isConsistent() = true");
        runs.changesNothing("P51: something of everything", Starts.RICH, "isConsistent() = true");
        runs.changesNothing("P51: all that there can be", Starts.FULL, "isConsistent() = true");
        runs.changesNothing("P51: eight writs for one night", EIGHT_FOR_ONE_NIGHT, "isConsistent() = true");
        runs.changesNothing("P51: behind a hearing", EIGHT_FOR_ONE_NIGHT + "hear(0)\n", "isConsistent() = true");
        runs.changesNothing("P51: blocks that have come back", Starts.RICH + "passNights(10)\n",
                "isConsistent() = true");
        runs.changesNothing("P51: the bail of an upheld writ", Starts.RICH_NEXT_NIGHT
                + "setHome(0, 3)\nhear(0) = 'u'\n", "isConsistent() = true");
    }
}
