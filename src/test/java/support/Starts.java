/** Calls that bring an object to where the tests of the edges begin. */
final class Starts {
    static final String BOUNDS = "IndexOutOfBoundsException";
    static final String ARGUMENT = "IllegalArgumentException";
    static final String STATE = "IllegalStateException";
    static final String ELEMENT = "NoSuchElementException";
    static final String UNSUPPORTED = "UnsupportedOperationException";

    static final String FOUR_PEDESTALS = "addPedestal()\n".repeat(4);
    static final String EIGHT_PEDESTALS = "addPedestal()\n".repeat(8);

    /** Statue 0 at home on pedestal 0, with no arrow that leads away. */
    static final String STATUE = FOUR_PEDESTALS + "addStatue(0, 30)\n";

    /**
     * Something of everything: three statues on four pedestals, a round of three arrows, a writ that is paid (0), its
     * follower (1) and that one's follower (2), one that was upheld (3), a hearing that was held tonight, blocks, a
     * snapshot, a full row of changes to undo, an output text, a script's error and a script's failure.
     */
    static final String RICH_BUT_BUFFER = FOUR_PEDESTALS + """
            setArrow(0, 1)
            setArrow(1, 2)
            setArrow(2, 0)
            addStatue(0, 30) = 0
            addStatue(1, 30) = 1
            addStatue(3, 50) = 2
            save() = 3
            addBlocks(20, 3) = 3
            addBlocks(5, 2) = 2
            run "nightx" = throws.IllegalArgumentException
            run "night;arrow 09" = throws.IllegalStateException
            issueWrit(0, 9, 20) = 0
            issueFollower(1, 9, 40, 0) = 1
            issueFollower(2, 9, 7, 1) = 2
            issueWrit(2, 9, 5) = 3
            payBail(0) = 1
            setHome(2, 0) = 3
            hear(3) = 'u'
            renderStatue(1) = 11
            """;

    /** The same with a sign in the script buffer. */
    static final String RICH = RICH_BUT_BUFFER + "type('n') = 1\n";

    /** The same on the next night, when a hearing may be held; the three statues stand where they stood. */
    static final String RICH_NEXT_NIGHT = RICH + """
            setArrow(0, 0)
            passNights(1) = 0
            """;

    /** Eight pedestals, six statues, eight writs (0 to 7), and 99 blocks of the weight 3. */
    static final String FULL = EIGHT_PEDESTALS + """
            addStatue(0, 10)
            addStatue(1, 10)
            addStatue(2, 10)
            addStatue(3, 10)
            addStatue(4, 10)
            addStatue(5, 10)
            """ + "addBlocks(3, 9)\n".repeat(11) + "issueWrit(0, 9, 10)\n".repeat(8);

    private Starts() {
    }
}
