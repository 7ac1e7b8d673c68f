/** Promises 4, 5, 19 to 26, 49, 50 and 52: statues. */
public final class StatueTest {
    private static final String FOUR = "addPedestal()\naddPedestal()\naddPedestal()\naddPedestal()\n";
    private static final String SIX_STATUES = FOUR + FOUR + """
            addStatue(0, 10)
            addStatue(1, 10)
            addStatue(2, 10)
            addStatue(3, 10)
            addStatue(4, 10)
            addStatue(5, 10)
            """;

    public static void main(String[] args) {
        Runs runs = new Runs();
        addStatue(runs);
        addStatueWrongly(runs);
        setHome(runs);
        readStatues(runs);
        isBound(runs);
        statueByWeight(runs);
        nightsUntilHome(runs);
        nightsUntilHomeAtItsEdge(runs);
        meanWeightAndHomeShare(runs);
        renderStatue(runs);
        runs.end();
    }

    private static void addStatue(Runs runs) {
        runs.run("4 addStatue", FOUR + """
                addStatue(2, 1) = 0
                addStatue(0, 99) = 1
                statueCount() = 2
                pedestalOf(0) = 2
                pedestalOf(1) = 0
                home(0) = 2
                home(1) = 0
                weightOf(0) = 1
                weightOf(1) = 99
                isHome(0) = true
                isBound(0) = false
                """);
        runs.run("4 addStatue at most 6", SIX_STATUES + """
                statueCount() = 6
                addStatue(6, 10) = throws.IllegalStateException
                addStatue(0, 10) = throws.IllegalStateException
                addStatue(6, 0) = throws.IllegalArgumentException
                addStatue(8, 10) = throws.IndexOutOfBoundsException
                statueCount() = 6
                isFree(6) = true
                """);
    }

    private static void addStatueWrongly(Runs runs) {
        runs.run("4 addStatue wrongly", FOUR + """
                addStatue(1, 5)
                addStatue(4, 5) = throws.IndexOutOfBoundsException
                addStatue(-1, 5) = throws.IndexOutOfBoundsException
                addStatue(4, 0) = throws.IndexOutOfBoundsException
                addStatue(-1, 100) = throws.IndexOutOfBoundsException
                addStatue(0, 0) = throws.IllegalArgumentException
                addStatue(0, 100) = throws.IllegalArgumentException
                addStatue(0, -2147483648) = throws.IllegalArgumentException
                addStatue(1, 0) = throws.IllegalArgumentException
                addStatue(1, 5) = throws.IllegalStateException
                statueCount() = 1
                addStatue(0, 5) = 1
                """);
    }

    private static void setHome(Runs runs) {
        runs.run("5 setHome", FOUR + """
                addStatue(1, 5)
                addStatue(2, 5)
                setHome(0, 3) = 1
                home(0) = 3
                isHome(0) = false
                isHome(1) = true
                setHome(0, 2) = 3
                setHome(0, 1) = 2
                isHome(0) = true
                pedestalOf(0) = 1
                setHome(2, 1) = throws.IndexOutOfBoundsException
                setHome(-1, 1) = throws.IndexOutOfBoundsException
                setHome(0, 4) = throws.IndexOutOfBoundsException
                setHome(0, -1) = throws.IndexOutOfBoundsException
                home(0) = 1
                """);
    }

    private static void readStatues(Runs runs) {
        for (String name : new String[] {"pedestalOf", "home", "weightOf", "isBound", "isHome", "renderStatue",
                "nightsUntilHome"}) {
            runs.run("20 to 26 and 52 no such statue", FOUR + """
                    NAME(0) = throws.IndexOutOfBoundsException
                    addStatue(0, 5)
                    NAME(0)
                    NAME(1) = throws.IndexOutOfBoundsException
                    NAME(-1) = throws.IndexOutOfBoundsException
                    NAME(2147483647) = throws.IndexOutOfBoundsException
                    """.replace("NAME", name));
        }
        runs.run("19 to 24 after a move", FOUR + """
                addStatue(0, 5)
                setArrow(0, 3)
                passNights(1) = 1
                pedestalOf(0) = 3
                home(0) = 0
                isHome(0) = false
                weightOf(0) = 5
                statueCount() = 1
                """);
    }

    private static void isBound(Runs runs) {
        runs.run("23 isBound", FOUR + """
                addStatue(0, 5)
                addStatue(1, 5)
                addBlocks(10, 9)
                isBound(1) = false
                issueWrit(1, 5, 10) = 0
                issueWrit(1, 5, 10) = 1
                isBound(1) = true
                isBound(0) = false
                payBail(0)
                isBound(1) = true
                payBail(1)
                isBound(1) = false
                issueWrit(1, 0, 10) = 2
                isBound(1) = true
                passNights(1)
                isBound(1) = false
                """);
    }

    private static void statueByWeight(Runs runs) {
        runs.run("25 statueByWeight", FOUR + """
                statueByWeight(0) = throws.NoSuchElementException
                addStatue(0, 5)
                addStatue(1, 9)
                addStatue(2, 5)
                addStatue(3, 9)
                statueByWeight(0) = 1
                statueByWeight(1) = 3
                statueByWeight(2) = 0
                statueByWeight(3) = 2
                statueByWeight(4) = throws.NoSuchElementException
                statueByWeight(-1) = throws.NoSuchElementException
                addPedestal()
                addStatue(4, 7)
                statueByWeight(2) = 4
                statueByWeight(3) = 0
                statueByWeight(4) = 2
                """);
    }

    private static void nightsUntilHome(Runs runs) {
        runs.run("26 nightsUntilHome", FOUR + """
                addStatue(0, 5)
                nightsUntilHome(0) = 0
                setHome(0, 3)
                nightsUntilHome(0) = throws.NoSuchElementException
                setArrow(0, 1)
                setArrow(1, 2)
                setArrow(2, 3)
                nightsUntilHome(0) = 3
                issueWrit(0, 4, 5)
                nightsUntilHome(0) = 7
                night() = 0
                pedestalOf(0) = 0
                writCount() = 1
                lapsedTotal() = 0
                passNights(5) = 1
                nightsUntilHome(0) = 2
                """);
        runs.run("26 nightsUntilHome behind another statue", FOUR + """
                addStatue(1, 9)
                addStatue(0, 5)
                setArrow(0, 1)
                setArrow(1, 2)
                setHome(1, 2)
                nightsUntilHome(1) = throws.NoSuchElementException
                setArrow(2, 3)
                nightsUntilHome(1) = 2
                setHome(0, 0)
                nightsUntilHome(0) = throws.NoSuchElementException
                """);
    }

    /** A crowd on a round, bound for a while, so that statue 5 comes to pedestal 0 in the 51st night only. */
    private static void nightsUntilHomeAtItsEdge(Runs runs) {
        runs.run("26 the 50th night counts, the 51st does not", FOUR + FOUR + """
                setArrow(0, 2)
                setArrow(1, 2)
                setArrow(2, 3)
                setArrow(3, 4)
                setArrow(4, 5)
                setArrow(5, 6)
                setArrow(6, 7)
                setArrow(7, 0)
                addStatue(2, 94)
                addStatue(5, 62)
                addStatue(7, 55)
                addStatue(4, 90)
                addStatue(3, 92)
                addStatue(1, 98)
                issueWrit(2, 20, 1)
                issueWrit(2, 20, 1)
                issueWrit(4, 16, 1)
                setHome(5, 0)
                nightsUntilHome(5) = throws.NoSuchElementException
                passNights(1)
                nightsUntilHome(5) = 50
                passNights(49)
                isHome(5) = false
                nightsUntilHome(5) = 1
                passNights(1)
                isHome(5) = true
                nightsUntilHome(5) = 0
                """);
    }

    private static void meanWeightAndHomeShare(Runs runs) {
        runs.run("49 and 50", FOUR + """
                meanWeight() = throws.ArithmeticException
                homeShare() = throws.ArithmeticException
                addStatue(0, 5)
                meanWeight() = 5.0
                homeShare() = 1.0
                addStatue(1, 8)
                meanWeight() = 6.5
                addStatue(2, 7)
                meanWeight() = 6.666666666666667
                setHome(0, 3)
                homeShare() = 0.6666667
                setHome(1, 3)
                homeShare() = 0.33333334
                setHome(2, 3)
                homeShare() = 0.0
                """);
    }

    private static void renderStatue(Runs runs) {
        runs.run("52 renderStatue", FOUR + FOUR + """
                text = ""
                addStatue(0, 1)
                addStatue(7, 9)
                addStatue(4, 35)
                setHome(2, 1)
                issueWrit(2, 3, 40)
                renderStatue(2) = 11
                text = "2@4>1 35kg!"
                renderStatue(3) = throws.IndexOutOfBoundsException
                text = "2@4>1 35kg!"
                outputAt(10) = '!'
                outputAt(11) = throws.IndexOutOfBoundsException
                outputAt(-1) = throws.IndexOutOfBoundsException
                renderStatue(1) = 9
                text = "1@7>7 9kg"
                outputAt(9) = throws.IndexOutOfBoundsException
                """);
    }
}
