/** Promises 54 to 59: the output text's edges, and scripts. */
public final class ScriptTest {
    private static final String START = """
            addPedestal()
            addPedestal()
            addPedestal()
            addStatue(0, 5)
            addStatue(1, 7)
            addBlocks(10, 9)
            issueWrit(0, 9, 10)
            issueWrit(1, 9, 20)
            """;

    public static void main(String[] args) {
        Runs runs = new Runs();
        outputAt(runs);
        type(runs);
        eachCommand(runs);
        numbers(runs);
        manyCommands(runs);
        errorPositions(runs);
        errorPositionsOfWholeForms(runs);
        bufferIsEmptied(runs);
        failures(runs);
        failuresTakeNoEffect(runs);
        latestFailure(runs);
        runs.end();
    }

    private static void outputAt(Runs runs) {
        runs.run("54 outputAt", START + """
                outputAt(0) = throws.IndexOutOfBoundsException
                outputAt(-1) = throws.IndexOutOfBoundsException
                renderStatue(0) = 10
                outputAt(0) = '0'
                outputAt(1) = '@'
                outputAt(9) = '!'
                outputAt(10) = throws.IndexOutOfBoundsException
                outputAt(-2147483648) = throws.IndexOutOfBoundsException
                outputAt(2147483647) = throws.IndexOutOfBoundsException
                """);
    }

    private static void type(Runs runs) {
        runs.run("55 type", """
                type('n') = 1
                type(32) = 2
                type(126) = 3
                type(31) = throws.IllegalArgumentException
                type(127) = throws.IllegalArgumentException
                type(0) = throws.IllegalArgumentException
                type(65535) = throws.IllegalArgumentException
                type('x') = 4
                """);
        runs.run("55 type at most 60", "type(';')\n".repeat(59) + """
                type('x') = 60
                type('x') = throws.IllegalStateException
                type(31) = throws.IllegalArgumentException
                runScript() = throws.IllegalArgumentException
                type('x') = 1
                """);
    }

    private static void eachCommand(Runs runs) {
        runs.run("56 each command", START + """
                run "pedestal" = 1
                pedestalCount() = 4
                run "arrow 32" = 1
                arrow(3) = 2
                run "statue 3 99" = 1
                statueCount() = 3
                pedestalOf(2) = 3
                weightOf(2) = 99
                run "home 21" = 1
                home(2) = 1
                run "writ 2 3 4" = 1
                statueOf(2) = 2
                lastNight(2) = 3
                bail(2) = 4
                causeOf(2) = throws.NoSuchElementException
                run "writ 1 20 60<0" = 1
                statueOf(3) = 1
                lastNight(3) = 20
                bail(3) = 60
                causeOf(3) = 0
                run "block 2 7" = 1
                blocks(2) = 7
                run "pay 1" = 1
                isPaid(1) = true
                blocks(10) = 7
                run "hear 1" = 1
                dismissedTotal() = 1
                run "night" = 1
                night() = 1
                run "night 50" = 1
                night() = 51
                """);
    }

    private static void numbers(Runs runs) {
        runs.run("56 numbers of one to three digits", START + """
                run "block 002 3;block 04 5;night 007;night 1" = 4
                blocks(2) = 3
                blocks(4) = 5
                night() = 8
                run "statue 2 099" = 1
                weightOf(2) = 99
                run "writ 0 010 060<001" = 1
                lastNight(2) = 18
                bail(2) = 60
                causeOf(2) = 1
                """);
    }

    private static void manyCommands(Runs runs) {
        runs.run("56 ten commands fill the buffer", """
                run "night;night;night;night;night;night;night;night;night;night" = 10
                night() = 10
                run "night;night;night;night;night;night;night;night;night;night;" = throws.IllegalArgumentException
                errorPosition() = 60
                night() = 10
                run "pedestal;pedestal;arrow 01;statue 0 9;writ 0 9 8;night 2" = 6
                pedestalCount() = 2
                arrow(0) = 1
                pedestalOf(0) = 0
                night() = 12
                lastNight(0) = 19
                run "block 8 2;pay 0;hear 0;writ 0 0 5;night;hear 1" = throws.IllegalStateException
                run "block 8 2;pay 0;hear 0;writ 0 1 5;night;hear 1;night" = 7
                dismissedTotal() = 2
                pedestalOf(0) = 1
                """);
    }

    private static void errorPositions(Runs runs) {
        runs.run("57 no script yet", "errorPosition() = throws.NoSuchElementException\nrun \"night\" = 1\n"
                + "errorPosition() = throws.NoSuchElementException\n");
        String[] scripts = {"", "0", ";", "0", "x", "0", " night", "0", "#", "0", "%", "0", "[", "0", "]", "0",
            "p", "1", "pe", "2", "px", "1", "pedestax", "7", "pedestal ", "8", "pedestals", "8", "paedestal", "2",
            "pay", "3", "pay ", "4", "pay x", "4", "pay -1", "4", "pay 1234", "7", "pay 1 ", "5",
            "h", "1", "hx", "1", "heme", "2", "hoar", "2", "home", "4", "home 1", "6", "home 12 ", "7", "home 1 2", "6",
            "home 123", "7", "hear 12;", "8", "hear 5x", "6", "hear%", "4", "hear #", "5", "hear %", "5",
            "a", "1", "arrow 0", "7", "arrow  01", "6", "arrow ##", "6", "arrow 0#", "7",
            "s", "1", "statue 12", "8", "statue 1 ", "9", "statue 1 2345", "12", "statue # %", "7"};
        check(runs, scripts);
    }

    private static void errorPositionsOfWholeForms(Runs runs) {
        String[] scripts = {"w", "1", "writ 0 1", "8", "writ 0 1 ", "9", "writ 00 1 1", "6", "writ 0 1234 1", "10",
            "writ 0 1 1234", "12", "writ 0 1 1<", "11", "writ 0 1 1<x", "11", "writ 0 1 1 <0", "10",
            "writ 0 1 1<1234", "14", "writ 0 1 1<1<1", "12", "writ 0 1 1[<0]", "10", "writ 0 1 1]", "10",
            "b", "1", "block 1", "7", "block 1 ", "8", "block 1 12", "9", "block 1234 1", "9", "block 12;", "8",
            "n", "1", "nigh", "4", "nightx", "5", "night ", "6", "night  1", "6", "night x", "6", "night 1234", "9",
            "night 1 1", "7", "night[ 1]", "5", "night ;", "6", "night]", "5",
            "night;", "6", "night;;", "6", "night;x", "6", "night; night", "6", "night 5;home 01;pay", "19",
            "pedestal,night", "8", "NIGHT", "0", "Night", "0"};
        check(runs, scripts);
    }

    private static void check(Runs runs, String[] scripts) {
        for (int i = 0; i < scripts.length; i += 2) {
            runs.run("56 and 57 error position", START + "run \"" + scripts[i]
                    + "\" = throws.IllegalArgumentException\nerrorPosition() = " + scripts[i + 1] + "\n"
                    + "failedCommand() = throws.NoSuchElementException\nnight() = 0\npedestalCount() = 3\n");
        }
    }

    private static void bufferIsEmptied(Runs runs) {
        runs.run("56 the buffer is empty afterwards", START + """
                run "night" = 1
                type('n') = 1
                runScript() = throws.IllegalArgumentException
                type('n') = 1
                runScript() = throws.IllegalArgumentException
                run "hear 9" = throws.IllegalStateException
                type('n') = 1
                """);
        runs.run("57 the latest error position stays", START + """
                run "night x" = throws.IllegalArgumentException
                errorPosition() = 6
                run "night" = 1
                run "hear 9" = throws.IllegalStateException
                errorPosition() = 6
                run "" = throws.IllegalArgumentException
                errorPosition() = 0
                """);
    }

    private static void failures(Runs runs) {
        String[] failures = {
            "arrow 03", "i", "arrow 30", "i", "statue 3 5", "i", "statue 2 0", "a", "statue 2 100", "a",
            "statue 0 5", "s", "home 20", "i", "home 03", "i", "writ 2 1 1", "i", "writ 0 21 1", "a",
            "writ 0 1 0", "a", "writ 0 1 61", "a", "writ 0 1 1<2", "e", "writ 0 21 1<2", "a", "writ 2 1 1<0", "i",
            "block 0 1", "a", "block 21 1", "a", "block 1 0", "a", "pay 2", "e", "pay 999", "e", "hear 2", "e",
            "night 0", "a", "night 51", "a", "night 999", "a", "pay 0;pay 0", "s", "hear 0;hear 1", "s",
            "hear 0;hear 0", "e", "writ 0 1 5;pay 2", "u", "hear 0;pay 0", "e",
            "pedestal;pedestal;pedestal;pedestal;pedestal;pedestal", "s",
            "block 10 9;block 10 9;block 10 9;block 10 9;night", "-"};
        for (int i = 0; i < failures.length; i += 2) {
            boolean fails = !failures[i + 1].equals("-");
            int last = failures[i].split(";").length - 1;
            runs.run("56, 58 and 59 failures", START + "run \"" + failures[i] + "\" = "
                    + (fails ? "throws.IllegalStateException" : String.valueOf(last + 1)) + "\nfailedCommand() = "
                    + (fails ? String.valueOf(last) : "throws.NoSuchElementException") + "\nfailureKind() = "
                    + (fails ? "'" + failures[i + 1] + "'" : "throws.NoSuchElementException") + "\n");
        }
        runs.run("56 too many writs and too many blocks", START + "addBlocks(3, 9)\n".repeat(10) + """
                run "writ 0 1 5;writ 0 1 5;writ 0 1 5" = 3
                run "writ 0 1 5;writ 0 1 5<0;writ 0 1 5;writ 0 1 5" = throws.IllegalStateException
                failedCommand() = 3
                failureKind() = 's'
                writCount() = 5
                run "block 3 9;block 3 1" = throws.IllegalStateException
                failedCommand() = 1
                failureKind() = 's'
                blocks(3) = 90
                """);
    }

    private static void failuresTakeNoEffect(Runs runs) {
        runs.run("56 a failed script takes no effect", START + """
                run "pedestal;statue 3 9;pay 8" = throws.IllegalStateException
                failedCommand() = 2
                statueCount() = 2
                run "arrow 01;home 02;writ 0 5 5;pay 0;hear 1;night 9;pay 8" = throws.IllegalStateException
                failedCommand() = 6
                failureKind() = 'e'
                pedestalCount() = 3
                arrow(0) = 0
                home(0) = 0
                writCount() = 2
                isPaid(0) = false
                blocks(10) = 9
                treasury() = 0
                dismissedTotal() = 0
                night() = 0
                hear(1) = 'd'
                issueWrit(0, 5, 5) = 2
                run "night;statue 2 5;hear 9" = throws.IllegalStateException
                statueCount() = 2
                failedCommand() = 2
                """);
    }

    private static void latestFailure(Runs runs) {
        runs.run("58 and 59 the latest failure stays", START + """
                failedCommand() = throws.NoSuchElementException
                failureKind() = throws.NoSuchElementException
                run "night;hear 7" = throws.IllegalStateException
                failedCommand() = 1
                failureKind() = 'e'
                run "night" = 1
                run "x" = throws.IllegalArgumentException
                failedCommand() = 1
                failureKind() = 'e'
                run "arrow 09" = throws.IllegalStateException
                failedCommand() = 0
                failureKind() = 'i'
                """);
    }
}
