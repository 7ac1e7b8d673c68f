/** Promises 1 to 3 and 12 to 18: a new object, and pedestals with their arrows. */
public final class PedestalTest {
    private static final String THREE = "addPedestal()\naddPedestal()\naddPedestal()\n";
    private static final String EIGHT = THREE + THREE + "addPedestal()\naddPedestal()\n";

    public static void main(String[] args) {
        Runs runs = new Runs();
        newObject(runs);
        addPedestal(runs);
        setArrow(runs);
        readPedestals(runs);
        followArrows(runs);
        roundLength(runs);
        runs.end();
    }

    private static void newObject(Runs runs) {
        runs.run("1 a new object", """
                pedestalCount() = 0
                statueCount() = 0
                writCount() = 0
                night() = 0
                blocks(1) = 0
                blocks(20) = 0
                marbleTotal() = 0
                marbleByAccounts() = 0
                treasury() = 0
                upheldTotal() = 0
                dismissedTotal() = 0
                lapsedTotal() = 0
                docketValue() = 0
                docketValueBySets() = 0
                isConsistent() = true
                passNights(50) = 0
                arrow(0) = throws.IndexOutOfBoundsException
                weightOf(0) = throws.IndexOutOfBoundsException
                bail(0) = throws.NoSuchElementException
                """);
    }

    private static void addPedestal(Runs runs) {
        runs.run("2 addPedestal", """
                addPedestal() = 0
                addPedestal() = 1
                pedestalCount() = 2
                isFree(0) = true
                isFree(1) = true
                arrow(0) = 0
                arrow(1) = 1
                """);
        runs.run("2 addPedestal at most 8", EIGHT + """
                pedestalCount() = 8
                addPedestal() = throws.IllegalStateException
                pedestalCount() = 8
                arrow(7) = 7
                isFree(8) = throws.IndexOutOfBoundsException
                """);
    }

    private static void setArrow(Runs runs) {
        runs.run("3 setArrow", THREE + """
                setArrow(0, 2) = 0
                setArrow(0, 1) = 2
                setArrow(0, 0) = 1
                setArrow(2, 1) = 2
                arrow(0) = 0
                arrow(1) = 1
                arrow(2) = 1
                """);
        runs.run("3 setArrow out of bounds", THREE + """
                setArrow(3, 0) = throws.IndexOutOfBoundsException
                setArrow(-1, 0) = throws.IndexOutOfBoundsException
                setArrow(0, 3) = throws.IndexOutOfBoundsException
                setArrow(0, -1) = throws.IndexOutOfBoundsException
                setArrow(-2147483648, 2147483647) = throws.IndexOutOfBoundsException
                arrow(0) = 0
                """);
    }

    private static void readPedestals(Runs runs) {
        runs.run("12 to 15 reading pedestals", THREE + """
                addStatue(1, 5)
                addStatue(2, 7)
                pedestalCount() = 3
                isFree(0) = true
                isFree(1) = false
                isFree(2) = false
                isFree(3) = throws.IndexOutOfBoundsException
                isFree(-1) = throws.IndexOutOfBoundsException
                statueOn(1) = 0
                statueOn(2) = 1
                statueOn(0) = throws.NoSuchElementException
                statueOn(3) = throws.IndexOutOfBoundsException
                statueOn(-1) = throws.IndexOutOfBoundsException
                arrow(2) = 2
                arrow(3) = throws.IndexOutOfBoundsException
                arrow(-1) = throws.IndexOutOfBoundsException
                """);
        runs.run("14 and 15 after a move", THREE + """
                addStatue(1, 5)
                setArrow(1, 0)
                passNights(1) = 1
                isFree(0) = false
                isFree(1) = true
                statueOn(0) = 0
                statueOn(1) = throws.NoSuchElementException
                """);
    }

    private static void followArrows(Runs runs) {
        String tail = EIGHT + """
                setArrow(0, 1)
                setArrow(1, 2)
                setArrow(2, 3)
                setArrow(3, 4)
                setArrow(4, 2)
                setArrow(5, 0)
                """;
        for (String way : new String[] {"arrowAfter", "arrowAfterByDoubling"}) {
            runs.run("16 and 17 following arrows", tail + """
                    WAY(5, 0) = 5
                    WAY(5, 1) = 0
                    WAY(5, 2) = 1
                    WAY(5, 3) = 2
                    WAY(5, 4) = 3
                    WAY(5, 5) = 4
                    WAY(5, 6) = 2
                    WAY(0, 7) = 4
                    WAY(0, 9999) = 3
                    WAY(0, 8192) = 2
                    WAY(0, 8191) = 4
                    WAY(2, 9998) = 4
                    WAY(6, 9999) = 6
                    """.replace("WAY", way));
            runs.run("16 and 17 wrong arguments", tail + """
                    WAY(0, -1) = throws.IllegalArgumentException
                    WAY(0, 10000) = throws.IllegalArgumentException
                    WAY(0, 2147483647) = throws.IllegalArgumentException
                    WAY(8, 1) = throws.IndexOutOfBoundsException
                    WAY(-1, 1) = throws.IndexOutOfBoundsException
                    WAY(8, -1) = throws.IndexOutOfBoundsException
                    WAY(-1, 10000) = throws.IndexOutOfBoundsException
                    """.replace("WAY", way));
        }
    }

    private static void roundLength(Runs runs) {
        runs.run("18 roundLength", EIGHT + """
                roundLength(0) = 1
                setArrow(0, 1)
                roundLength(0) = 1
                setArrow(1, 2)
                setArrow(2, 3)
                setArrow(3, 1)
                roundLength(0) = 3
                roundLength(1) = 3
                roundLength(2) = 3
                roundLength(7) = 1
                roundLength(8) = throws.IndexOutOfBoundsException
                roundLength(-1) = throws.IndexOutOfBoundsException
                """);
        runs.run("18 roundLength of all pedestals", EIGHT + """
                setArrow(0, 1)
                setArrow(1, 2)
                setArrow(2, 3)
                setArrow(3, 4)
                setArrow(4, 5)
                setArrow(5, 6)
                setArrow(6, 7)
                roundLength(0) = 1
                setArrow(7, 0)
                roundLength(0) = 8
                roundLength(7) = 8
                setArrow(7, 6)
                roundLength(0) = 2
                """);
    }
}
