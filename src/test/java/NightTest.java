/** Promises 10, 11 and 45 to 48: nights, and hearings with what they do. */
public final class NightTest {
    private static final String FOUR = "addPedestal()\naddPedestal()\naddPedestal()\naddPedestal()\n";

    public static void main(String[] args) {
        Runs runs = new Runs();
        passNights(runs);
        moves(runs);
        boundStatues(runs);
        lapses(runs);
        upheld(runs);
        dismissed(runs);
        hearingsOfANight(runs);
        runs.end();
    }

    private static void passNights(Runs runs) {
        runs.run("11 and 45 passNights", """
                passNights(1) = 0
                night() = 1
                passNights(50) = 0
                night() = 51
                passNights(0) = throws.IllegalArgumentException
                passNights(51) = throws.IllegalArgumentException
                passNights(-1) = throws.IllegalArgumentException
                passNights(2147483647) = throws.IllegalArgumentException
                night() = 51
                """);
    }

    private static void moves(Runs runs) {
        runs.run("11 a lone statue", FOUR + """
                addStatue(0, 5)
                passNights(3) = 0
                setArrow(0, 1)
                setArrow(1, 2)
                setArrow(2, 0)
                passNights(7) = 7
                pedestalOf(0) = 1
                """);
        runs.run("11 the heaviest first: it makes room for the next", FOUR + """
                addStatue(0, 5)
                addStatue(1, 9)
                setArrow(0, 1)
                setArrow(1, 2)
                passNights(1) = 2
                pedestalOf(0) = 1
                pedestalOf(1) = 2
                passNights(5) = 0
                pedestalOf(0) = 1
                """);
        runs.run("11 the heaviest first: it is not let in", FOUR + """
                addStatue(0, 9)
                addStatue(1, 5)
                setArrow(0, 1)
                setArrow(1, 2)
                passNights(1) = 1
                pedestalOf(0) = 0
                pedestalOf(1) = 2
                passNights(1) = 1
                pedestalOf(0) = 1
                """);
        runs.run("11 of equal weights the lower index first", FOUR + """
                addStatue(0, 5)
                addStatue(1, 5)
                setArrow(0, 2)
                setArrow(1, 2)
                passNights(1) = 1
                pedestalOf(0) = 2
                pedestalOf(1) = 1
                """);
        runs.run("11 two that face each other stay", FOUR + """
                addStatue(0, 5)
                addStatue(1, 6)
                setArrow(0, 1)
                setArrow(1, 0)
                passNights(9) = 0
                pedestalOf(0) = 0
                """);
    }

    private static void boundStatues(Runs runs) {
        runs.run("11 a bound statue stays until its writ lapses or its bail is paid", FOUR + """
                addStatue(0, 5)
                setArrow(0, 1)
                setArrow(1, 0)
                issueWrit(0, 2, 10)
                passNights(2) = 0
                pedestalOf(0) = 0
                passNights(1) = 1
                pedestalOf(0) = 1
                issueWrit(0, 9, 10)
                passNights(1) = 0
                addBlocks(10, 1)
                payBail(1)
                passNights(2) = 2
                pedestalOf(0) = 1
                """);
        runs.run("11 a bound statue keeps others out", FOUR + """
                addStatue(0, 5)
                addStatue(1, 6)
                setArrow(0, 1)
                setArrow(1, 2)
                issueWrit(1, 1, 10)
                passNights(1) = 0
                passNights(1) = 2
                """);
    }

    private static void lapses(Runs runs) {
        runs.run("11 and 48 lapses", FOUR + """
                addStatue(0, 5)
                addBlocks(20, 9)
                issueWrit(0, 0, 20)
                issueWrit(0, 1, 20)
                issueWrit(0, 3, 40)
                issueFollower(0, 3, 40, 0)
                payBail(1) = 1
                payBail(2) = 2
                treasury() = 60
                passNights(1)
                lapsedTotal() = 1
                writCount() = 3
                writAt(0) = 1
                causeOf(3) = throws.NoSuchElementException
                treasury() = 60
                blocks(1) = 0
                passNights(1)
                lapsedTotal() = 2
                treasury() = 40
                blocks(1) = 20
                blocks(20) = 6
                passNights(50)
                lapsedTotal() = 4
                writCount() = 0
                treasury() = 0
                blocks(1) = 60
                upheldTotal() = 0
                dismissedTotal() = 0
                """);
        runs.run("11 a writ and its cause lapse in the same night", FOUR + """
                addStatue(0, 5)
                issueWrit(0, 1, 20)
                issueFollower(0, 1, 20, 0)
                issueFollower(0, 2, 20, 1)
                passNights(2)
                lapsedTotal() = 2
                causeDepth(2) = 0
                """);
        runs.run("48 followers do not lapse with their cause", FOUR + """
                addStatue(0, 5)
                issueWrit(0, 0, 20)
                issueFollower(0, 9, 20, 0)
                passNights(1)
                lapsedTotal() = 1
                writCount() = 1
                isBound(0) = true
                """);
    }

    private static void upheld(Runs runs) {
        runs.run("10 and 46 upheld, and carried home although it is bound", FOUR + """
                addStatue(0, 5)
                setHome(0, 2)
                addBlocks(10, 2)
                issueWrit(0, 9, 10)
                issueWrit(0, 9, 10)
                issueFollower(0, 9, 10, 0)
                payBail(0) = 1
                hear(0) = 'u'
                upheldTotal() = 1
                dismissedTotal() = 0
                lapsedTotal() = 0
                pedestalOf(0) = 2
                isFree(0) = true
                writCount() = 2
                causeOf(2) = throws.NoSuchElementException
                isBound(0) = true
                treasury() = 10
                blocks(1) = 0
                blocks(10) = 1
                """);
        runs.run("10 upheld, and not carried where another one stands", FOUR + """
                addStatue(0, 5)
                addStatue(2, 5)
                setHome(0, 2)
                issueWrit(0, 9, 10)
                hear(0) = 'u'
                pedestalOf(0) = 0
                pedestalOf(1) = 2
                upheldTotal() = 1
                isBound(0) = false
                """);
    }

    private static void dismissed(Runs runs) {
        runs.run("10 and 47 dismissed with all followers", FOUR + """
                addStatue(0, 5)
                addStatue(1, 5)
                setHome(1, 3)
                addBlocks(20, 9)
                issueWrit(0, 9, 20)
                issueWrit(0, 9, 20)
                issueFollower(1, 9, 40, 0)
                issueFollower(1, 9, 60, 2)
                issueFollower(1, 9, 60, 1)
                payBail(0) = 1
                payBail(1) = 1
                payBail(3) = 3
                treasury() = 100
                hear(0) = 'd'
                dismissedTotal() = 3
                upheldTotal() = 0
                lapsedTotal() = 0
                writCount() = 2
                writAt(0) = 1
                writAt(1) = 4
                causeOf(4) = 1
                treasury() = 20
                blocks(1) = 80
                blocks(20) = 4
                pedestalOf(1) = 1
                marbleTotal() = 180
                marbleByAccounts() = 180
                """);
        runs.run("10 a follower is heard, and its cause stays", FOUR + """
                addStatue(0, 5)
                issueWrit(0, 9, 20)
                issueFollower(0, 9, 40, 0)
                hear(1) = 'd'
                writCount() = 1
                writAt(0) = 0
                dismissedTotal() = 1
                """);
    }

    private static void hearingsOfANight(Runs runs) {
        runs.run("10 one hearing a night", FOUR + """
                addStatue(0, 5)
                hear(0) = throws.NoSuchElementException
                issueWrit(0, 9, 20)
                issueWrit(0, 9, 20)
                issueWrit(0, 9, 20)
                hear(3) = throws.NoSuchElementException
                hear(0) = 'd'
                hear(1) = throws.IllegalStateException
                hear(0) = throws.NoSuchElementException
                hear(-1) = throws.NoSuchElementException
                writCount() = 2
                passNights(1)
                hear(1) = 'd'
                hear(2) = throws.IllegalStateException
                passNights(5)
                hear(2) = 'd'
                dismissedTotal() = 3
                """);
    }
}
