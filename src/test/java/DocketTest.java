/** Promises 36, 37 and 51: the best docket, and the check of the state. */
public final class DocketTest {
    private static final String STATUE = "addPedestal()\naddPedestal()\naddStatue(0, 5)\n";

    public static void main(String[] args) {
        Runs runs = new Runs();
        for (String way : new String[] {"docketValue", "docketValueBySets"}) {
            enoughNights(runs, way);
            tooFewNights(runs, way);
            afterAHearing(runs, way);
        }
        isConsistent(runs);
        runs.end();
    }

    private static void enoughNights(Runs runs, String way) {
        runs.run("36 and 37 enough nights", STATUE + """
                WAY() = 0
                issueWrit(0, 0, 10)
                WAY() = 10
                issueWrit(0, 1, 20)
                WAY() = 30
                issueWrit(0, 2, 60)
                WAY() = 90
                addBlocks(10, 9)
                payBail(0)
                WAY() = 90
                passNights(1)
                WAY() = 80
                """.replace("WAY", way));
    }

    private static void tooFewNights(Runs runs, String way) {
        runs.run("36 and 37 too few nights", STATUE + """
                issueWrit(0, 0, 10)
                issueWrit(0, 0, 30)
                WAY() = 30
                issueWrit(0, 0, 20)
                WAY() = 30
                issueWrit(0, 1, 25)
                WAY() = 55
                issueWrit(0, 1, 60)
                WAY() = 90
                issueWrit(0, 2, 1)
                WAY() = 91
                issueWrit(0, 3, 50)
                issueWrit(0, 3, 40)
                WAY() = 180
                passNights(1)
                WAY() = 150
                """.replace("WAY", way));
    }

    private static void afterAHearing(Runs runs, String way) {
        runs.run("36 and 37 from the next night on after a hearing", STATUE + """
                issueWrit(0, 0, 10)
                issueWrit(0, 0, 30)
                issueWrit(0, 1, 20)
                issueWrit(0, 1, 25)
                WAY() = 55
                hear(0) = 'd'
                WAY() = 25
                passNights(1)
                WAY() = 25
                """.replace("WAY", way));
        runs.run("36 and 37 all last nights are tonight", STATUE + """
                issueWrit(0, 0, 10)
                issueWrit(0, 0, 30)
                issueWrit(0, 0, 20)
                hear(0) = 'd'
                WAY() = 0
                """.replace("WAY", way));
    }

    private static void isConsistent(Runs runs) {
        runs.run("51 isConsistent", STATUE + """
                isConsistent() = true
                setArrow(0, 1)
                setArrow(1, 0)
                addBlocks(20, 3)
                addBlocks(7, 9)
                addBlocks(2, 5)
                issueWrit(0, 0, 10)
                issueWrit(0, 0, 30)
                issueWrit(0, 1, 20)
                isConsistent() = true
                payBail(1)
                hear(0) = 'd'
                isConsistent() = true
                passNights(7)
                isConsistent() = true
                """);
    }
}
