/** Promises 6, 7, 27 to 35, 38 and 53: writs and their causes. */
public final class WritTest {
    private static final String START = """
            addPedestal()
            addPedestal()
            addStatue(0, 5)
            addStatue(1, 7)
            """;
    private static final String EIGHT_WRITS = START + "issueWrit(0, 5, 10)\n".repeat(8);

    public static void main(String[] args) {
        Runs runs = new Runs();
        issueWrit(runs);
        issueWritWrongly(runs);
        issueFollower(runs);
        issueFollowerWrongly(runs);
        noSuchWrit(runs);
        writAt(runs);
        causes(runs);
        followers(runs);
        writByLastNight(runs);
        renderWrit(runs);
        runs.end();
    }

    private static void issueWrit(Runs runs) {
        runs.run("6 issueWrit", START + """
                issueWrit(0, 0, 1) = 0
                issueWrit(1, 20, 60) = 1
                writCount() = 2
                statueOf(0) = 0
                statueOf(1) = 1
                lastNight(0) = 0
                lastNight(1) = 20
                bail(0) = 1
                bail(1) = 60
                isPaid(0) = false
                isPaid(1) = false
                causeOf(0) = throws.NoSuchElementException
                causeDepth(0) = 0
                followers(0) = 0
                passNights(3)
                issueWrit(0, 4, 9) = 2
                lastNight(2) = 7
                writCount() = 2
                """);
        runs.run("6 ids go on behind writs that are closed", START + """
                issueWrit(0, 5, 1) = 0
                hear(0) = 'd'
                writCount() = 0
                issueWrit(0, 5, 1) = 1
                """);
    }

    private static void issueWritWrongly(Runs runs) {
        runs.run("6 issueWrit wrongly", START + """
                issueWrit(2, 5, 10) = throws.IndexOutOfBoundsException
                issueWrit(-1, 5, 10) = throws.IndexOutOfBoundsException
                issueWrit(2, -1, 0) = throws.IndexOutOfBoundsException
                issueWrit(0, -1, 10) = throws.IllegalArgumentException
                issueWrit(0, 21, 10) = throws.IllegalArgumentException
                issueWrit(0, 5, 0) = throws.IllegalArgumentException
                issueWrit(0, 5, 61) = throws.IllegalArgumentException
                issueWrit(0, 2147483647, -2147483648) = throws.IllegalArgumentException
                writCount() = 0
                issueWrit(0, 5, 10) = 0
                """);
        runs.run("6 issueWrit at most 8", EIGHT_WRITS + """
                writCount() = 8
                issueWrit(0, 5, 10) = throws.IllegalStateException
                issueWrit(0, 21, 10) = throws.IllegalArgumentException
                issueWrit(2, 5, 10) = throws.IndexOutOfBoundsException
                writCount() = 8
                hear(3) = 'd'
                issueWrit(0, 5, 10) = 8
                """);
    }

    private static void issueFollower(Runs runs) {
        runs.run("7 issueFollower", START + """
                issueWrit(0, 5, 10) = 0
                issueFollower(1, 20, 60, 0) = 1
                issueFollower(0, 0, 1, 1) = 2
                causeOf(1) = 0
                causeOf(2) = 1
                statueOf(1) = 1
                lastNight(1) = 20
                lastNight(2) = 0
                bail(1) = 60
                isPaid(1) = false
                writCount() = 3
                isBound(1) = true
                """);
    }

    private static void issueFollowerWrongly(Runs runs) {
        runs.run("7 issueFollower wrongly", START + """
                issueWrit(0, 5, 10) = 0
                issueFollower(2, 5, 10, 0) = throws.IndexOutOfBoundsException
                issueFollower(-1, 5, 10, 0) = throws.IndexOutOfBoundsException
                issueFollower(2, 21, 0, 9) = throws.IndexOutOfBoundsException
                issueFollower(0, -1, 10, 0) = throws.IllegalArgumentException
                issueFollower(0, 21, 10, 0) = throws.IllegalArgumentException
                issueFollower(0, 5, 0, 0) = throws.IllegalArgumentException
                issueFollower(0, 5, 61, 0) = throws.IllegalArgumentException
                issueFollower(0, 5, 61, 9) = throws.IllegalArgumentException
                issueFollower(0, 5, 10, 1) = throws.NoSuchElementException
                issueFollower(0, 5, 10, -1) = throws.NoSuchElementException
                issueFollower(0, 5, 10, 2147483647) = throws.NoSuchElementException
                writCount() = 1
                issueWrit(0, 5, 10) = 1
                """);
        runs.run("7 issueFollower with 8 writs", EIGHT_WRITS + """
                issueFollower(0, 5, 10, 7) = throws.IllegalStateException
                issueFollower(0, 5, 10, 8) = throws.NoSuchElementException
                issueFollower(0, 5, 61, 8) = throws.IllegalArgumentException
                issueFollower(2, 5, 61, 8) = throws.IndexOutOfBoundsException
                writCount() = 8
                """);
    }

    private static void noSuchWrit(Runs runs) {
        for (String name : new String[] {"statueOf", "lastNight", "bail", "isPaid", "causeOf", "causeDepth",
                "followers", "renderWrit", "payBail", "hear"}) {
            runs.run("no such open writ", START + """
                    addBlocks(1, 9)
                    NAME(0) = throws.NoSuchElementException
                    NAME(-1) = throws.NoSuchElementException
                    issueWrit(0, 1, 2)
                    issueFollower(0, 0, 2, 0)
                    passNights(1)
                    NAME(1) = throws.NoSuchElementException
                    NAME(2) = throws.NoSuchElementException
                    NAME(-1) = throws.NoSuchElementException
                    NAME(-2147483648) = throws.NoSuchElementException
                    writCount() = 1
                    """.replace("NAME", name));
        }
    }

    private static void writAt(Runs runs) {
        runs.run("28 writAt", START + """
                writAt(0) = throws.NoSuchElementException
                issueWrit(0, 9, 10)
                issueWrit(0, 1, 10)
                issueWrit(0, 5, 10)
                writAt(0) = 0
                writAt(1) = 1
                writAt(2) = 2
                writAt(3) = throws.NoSuchElementException
                writAt(-1) = throws.NoSuchElementException
                passNights(2)
                writAt(0) = 0
                writAt(1) = 2
                writAt(2) = throws.NoSuchElementException
                statueOf(2) = 0
                lastNight(2) = 5
                """);
    }

    private static void causes(Runs runs) {
        runs.run("33 and 34 causes", START + """
                issueWrit(0, 9, 10)
                issueFollower(0, 2, 10, 0)
                issueFollower(0, 9, 10, 1)
                issueFollower(0, 9, 10, 2)
                issueFollower(0, 9, 10, 0)
                causeOf(0) = throws.NoSuchElementException
                causeOf(3) = 2
                causeOf(4) = 0
                causeDepth(0) = 0
                causeDepth(1) = 1
                causeDepth(2) = 2
                causeDepth(3) = 3
                causeDepth(4) = 1
                // writ 1 lapses, and writ 2 has no cause any more
                passNights(3)
                causeOf(1) = throws.NoSuchElementException
                causeOf(2) = throws.NoSuchElementException
                causeOf(3) = 2
                causeOf(4) = 0
                causeDepth(2) = 0
                causeDepth(3) = 1
                causeDepth(4) = 1
                followers(0) = 1
                followers(2) = 1
                """);
        runs.run("33 to 35 the longest row of causes", START + """
                issueWrit(0, 9, 10)
                issueFollower(0, 9, 10, 0)
                issueFollower(0, 9, 10, 1)
                issueFollower(0, 9, 10, 2)
                issueFollower(0, 9, 10, 3)
                issueFollower(0, 9, 10, 4)
                issueFollower(0, 9, 10, 5)
                issueFollower(0, 9, 10, 6)
                causeDepth(7) = 7
                followers(0) = 7
                followers(6) = 1
                followers(7) = 0
                """);
    }

    private static void followers(Runs runs) {
        runs.run("35 followers", START + """
                issueWrit(0, 9, 10)
                issueWrit(0, 9, 10)
                issueFollower(0, 9, 10, 0)
                issueFollower(0, 9, 10, 2)
                issueFollower(0, 9, 10, 0)
                issueFollower(0, 9, 10, 1)
                followers(0) = 3
                followers(1) = 1
                followers(2) = 1
                followers(3) = 0
                followers(4) = 0
                followers(5) = 0
                """);
        runs.run("35 an upheld writ leaves its followers without a cause", START + """
                issueWrit(0, 9, 10)
                issueFollower(0, 9, 10, 0)
                issueFollower(0, 9, 10, 1)
                setHome(0, 1)
                hear(0) = 'u'
                causeOf(1) = throws.NoSuchElementException
                causeOf(2) = 1
                followers(1) = 1
                writCount() = 2
                """);
    }

    private static void writByLastNight(Runs runs) {
        runs.run("38 writByLastNight", START + """
                writByLastNight(0) = throws.NoSuchElementException
                issueWrit(0, 9, 10)
                issueWrit(0, 3, 10)
                issueWrit(0, 9, 20)
                issueWrit(0, 3, 10)
                issueWrit(0, 3, 11)
                issueWrit(0, 20, 60)
                issueWrit(0, 0, 1)
                writByLastNight(0) = 6
                writByLastNight(1) = 4
                writByLastNight(2) = 1
                writByLastNight(3) = 3
                writByLastNight(4) = 2
                writByLastNight(5) = 0
                writByLastNight(6) = 5
                writByLastNight(7) = throws.NoSuchElementException
                writByLastNight(-1) = throws.NoSuchElementException
                passNights(1)
                writByLastNight(0) = 4
                writByLastNight(5) = 5
                writByLastNight(6) = throws.NoSuchElementException
                """);
    }

    private static void renderWrit(Runs runs) {
        runs.run("53 renderWrit", START + """
                addPedestal()
                addStatue(2, 1)
                addBlocks(20, 2)
                issueWrit(0, 9, 10)
                hear(0) = 'd'
                passNights(1)
                issueWrit(0, 9, 10)
                issueWrit(0, 9, 10)
                issueWrit(1, 9, 3)
                issueWrit(0, 9, 10)
                issueFollower(2, 11, 40, 3)
                renderWrit(1) = 9
                text = "1:0#10$10"
                renderWrit(5) = 11
                text = "5:2<3#12$40"
                payBail(5) = 2
                renderWrit(5) = 12
                text = "5:2<3#12$40+"
                renderWrit(6) = throws.NoSuchElementException
                text = "5:2<3#12$40+"
                outputAt(11) = '+'
                outputAt(12) = throws.IndexOutOfBoundsException
                renderWrit(3) = 8
                text = "3:1#10$3"
                """);
        runs.run("53 renderWrit with the first writ as the cause", START + """
                issueWrit(0, 9, 10)
                issueFollower(1, 20, 60, 0)
                renderWrit(1) = 11
                text = "1:1<0#20$60"
                """);
    }
}
