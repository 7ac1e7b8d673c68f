/** Promises 8, 9, 32 and 39 to 44: blocks, bail and the treasury. */
public final class MarbleTest {
    private static final String STATUE = "addPedestal()\naddStatue(0, 5)\n";

    public static void main(String[] args) {
        Runs runs = new Runs();
        addBlocks(runs);
        addBlocksAtMost99(runs);
        blocks(runs);
        payBail(runs);
        payBailAmongSeveralWays(runs);
        payBailWrongly(runs);
        fewestBlocks(runs);
        totals(runs);
        runs.end();
    }

    private static void addBlocks(Runs runs) {
        runs.run("8 addBlocks", """
                addBlocks(1, 9) = 9
                addBlocks(1, 1) = 10
                addBlocks(20, 9) = 9
                addBlocks(0, 5) = throws.IllegalArgumentException
                addBlocks(21, 5) = throws.IllegalArgumentException
                addBlocks(-1, 5) = throws.IllegalArgumentException
                addBlocks(5, 0) = throws.IllegalArgumentException
                addBlocks(5, 10) = throws.IllegalArgumentException
                addBlocks(5, -1) = throws.IllegalArgumentException
                addBlocks(-2147483648, 2147483647) = throws.IllegalArgumentException
                blocks(5) = 0
                blocks(1) = 10
                marbleTotal() = 190
                """);
    }

    private static void addBlocksAtMost99(Runs runs) {
        runs.run("8 addBlocks at most 99", "addBlocks(3, 9)\n".repeat(10) + """
                addBlocks(3, 8) = 98
                addBlocks(3, 2) = throws.IllegalStateException
                addBlocks(3, 1) = 99
                addBlocks(3, 1) = throws.IllegalStateException
                addBlocks(3, 10) = throws.IllegalArgumentException
                addBlocks(3, 0) = throws.IllegalArgumentException
                blocks(3) = 99
                marbleTotal() = 297
                addBlocks(2, 9) = 9
                """);
        runs.run("8 more than 99 by bail that goes back", STATUE + "addBlocks(1, 9)\n".repeat(11) + """
                addBlocks(20, 3)
                issueWrit(0, 0, 60)
                payBail(0) = 3
                passNights(1)
                blocks(1) = 159
                addBlocks(1, 1) = throws.IllegalStateException
                fewestBlocks(60) = 60
                fewestBlocksBySearch(60) = 60
                isConsistent() = true
                """);
    }

    private static void blocks(Runs runs) {
        runs.run("39 blocks", """
                addBlocks(20, 3)
                addBlocks(1, 2)
                blocks(20) = 3
                blocks(1) = 2
                blocks(19) = 0
                blocks(0) = throws.IllegalArgumentException
                blocks(21) = throws.IllegalArgumentException
                blocks(-1) = throws.IllegalArgumentException
                blocks(2147483647) = throws.IllegalArgumentException
                """);
    }

    private static void payBail(Runs runs) {
        runs.run("9 and 32 payBail with the fewest blocks", STATUE + """
                addBlocks(20, 1)
                addBlocks(15, 2)
                addBlocks(5, 2)
                addBlocks(1, 9)
                issueWrit(0, 9, 30)
                isPaid(0) = false
                payBail(0) = 2
                isPaid(0) = true
                blocks(15) = 0
                blocks(20) = 1
                blocks(5) = 2
                blocks(1) = 9
                treasury() = 30
                bail(0) = 30
                writCount() = 1
                isBound(0) = false
                payBail(0) = throws.IllegalStateException
                treasury() = 30
                issueWrit(0, 9, 30)
                payBail(1) = 3
                blocks(20) = 0
                blocks(5) = 0
                treasury() = 60
                """);
        runs.run("9 payBail where the heaviest block is of no use", STATUE + """
                addBlocks(20, 3)
                addBlocks(7, 3)
                issueWrit(0, 9, 21)
                payBail(0) = 3
                blocks(7) = 0
                blocks(20) = 3
                """);
    }

    private static void payBailAmongSeveralWays(Runs runs) {
        runs.run("9 of several ways the one with the heaviest block", STATUE + """
                addBlocks(20, 1)
                addBlocks(10, 1)
                addBlocks(15, 2)
                issueWrit(0, 9, 30)
                payBail(0) = 2
                blocks(20) = 0
                blocks(10) = 0
                blocks(15) = 2
                """);
        runs.run("9 of several ways the one with more of the next weight", STATUE + """
                addBlocks(20, 1)
                addBlocks(12, 1)
                addBlocks(8, 1)
                addBlocks(11, 1)
                addBlocks(9, 1)
                addBlocks(10, 2)
                issueWrit(0, 9, 40)
                payBail(0) = 3
                blocks(20) = 0
                blocks(12) = 0
                blocks(8) = 0
                blocks(11) = 1
                blocks(9) = 1
                blocks(10) = 2
                """);
        runs.run("9 the fewest blocks go before the heaviest ones", STATUE + """
                addBlocks(20, 1)
                addBlocks(19, 2)
                addBlocks(9, 2)
                issueWrit(0, 9, 38)
                payBail(0) = 2
                blocks(20) = 1
                blocks(19) = 0
                """);
    }

    private static void payBailWrongly(Runs runs) {
        runs.run("9 payBail wrongly", STATUE + """
                addBlocks(20, 2)
                issueWrit(0, 9, 30)
                issueWrit(0, 9, 60)
                issueWrit(0, 9, 40)
                payBail(3) = throws.NoSuchElementException
                payBail(-1) = throws.NoSuchElementException
                payBail(0) = throws.UnsupportedOperationException
                payBail(1) = throws.UnsupportedOperationException
                isPaid(0) = false
                blocks(20) = 2
                treasury() = 0
                payBail(2) = 2
                payBail(2) = throws.IllegalStateException
                payBail(0) = throws.UnsupportedOperationException
                """);
    }

    private static void fewestBlocks(Runs runs) {
        for (String way : new String[] {"fewestBlocks", "fewestBlocksBySearch"}) {
            runs.run("40 and 41 fewest blocks", """
                    WAY(60) = throws.UnsupportedOperationException
                    addBlocks(12, 3)
                    addBlocks(18, 1)
                    addBlocks(5, 1)
                    WAY(1) = throws.UnsupportedOperationException
                    WAY(5) = 1
                    WAY(12) = 1
                    WAY(24) = 2
                    WAY(36) = 3
                    WAY(30) = 2
                    WAY(35) = 3
                    WAY(59) = 5
                    WAY(54) = 4
                    WAY(60) = throws.UnsupportedOperationException
                    WAY(10) = throws.UnsupportedOperationException
                    WAY(0) = throws.IllegalArgumentException
                    WAY(61) = throws.IllegalArgumentException
                    WAY(-1) = throws.IllegalArgumentException
                    WAY(2147483647) = throws.IllegalArgumentException
                    blocks(12) = 3
                    """.replace("WAY", way));
            runs.run("40 and 41 fewer lighter blocks", """
                    addBlocks(20, 1)
                    addBlocks(1, 9)
                    addBlocks(13, 2)
                    WAY(26) = 2
                    WAY(25) = 6
                    WAY(60) = throws.UnsupportedOperationException
                    WAY(55) = 12
                    """.replace("WAY", way));
        }
    }

    private static void totals(Runs runs) {
        runs.run("42 to 44 totals", STATUE + """
                addBlocks(20, 2)
                addBlocks(1, 3)
                marbleTotal() = 43
                marbleByAccounts() = 43
                treasury() = 0
                issueWrit(0, 9, 22)
                payBail(0) = 3
                marbleTotal() = 43
                marbleByAccounts() = 43
                treasury() = 22
                hear(0) = 'd'
                treasury() = 0
                blocks(1) = 23
                marbleTotal() = 43
                marbleByAccounts() = 43
                """);
    }
}
