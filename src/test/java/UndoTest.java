/** Promises 60 to 62: undo and the snapshot. */
public final class UndoTest {
    private static final String START = """
            addPedestal()
            addPedestal()
            addPedestal()
            addStatue(0, 5)
            addStatue(1, 7)
            addBlocks(10, 9)
            issueWrit(0, 9, 10)
            issueFollower(0, 9, 20, 0)
            """;

    public static void main(String[] args) {
        Runs runs = new Runs();
        undo(runs);
        undoAtMost8(runs);
        whatIsAChange(runs);
        undoOfEachChange(runs);
        notCoveredByUndo(runs);
        saveAndRestore(runs);
        restoreCoversEverything(runs);
        runs.end();
    }

    private static void undo(Runs runs) {
        runs.run("60 undo", """
                undo() = throws.NoSuchElementException
                addPedestal() = 0
                addPedestal() = 1
                undo() = 1
                pedestalCount() = 1
                addPedestal() = 1
                addPedestal() = 2
                undo() = 2
                undo() = 1
                undo() = 0
                pedestalCount() = 0
                undo() = throws.NoSuchElementException
                pedestalCount() = 0
                """);
    }

    private static void undoAtMost8(Runs runs) {
        runs.run("60 the latest 8 changes", "passNights(1)\n".repeat(11) + """
                undo() = 7
                undo() = 6
                undo() = 5
                night() = 8
                passNights(1)
                passNights(1)
                undo() = 6
                undo() = 5
                undo() = 4
                undo() = 3
                undo() = 2
                undo() = 1
                undo() = 0
                night() = 3
                undo() = throws.NoSuchElementException
                night() = 3
                """);
        runs.run("60 exactly 8 changes", "passNights(1)\n".repeat(8) + """
                undo() = 7
                passNights(1)
                passNights(1)
                undo() = 7
                """);
    }

    private static void whatIsAChange(Runs runs) {
        runs.run("60 changes that change nothing count, others do not", START + """
                setArrow(0, 0) = 0
                setHome(0, 0) = 0
                setArrow(0, 2) = 0
                setHome(0, 9) = throws.IndexOutOfBoundsException
                payBail(9) = throws.NoSuchElementException
                hear(9) = throws.NoSuchElementException
                passNights(0) = throws.IllegalArgumentException
                addBlocks(0, 0) = throws.IllegalArgumentException
                addStatue(0, 5) = throws.IllegalStateException
                run "night;x" = throws.IllegalArgumentException
                run "night;hear 9" = throws.IllegalStateException
                nightsUntilHome(0) = 0
                renderStatue(0)
                save() = 2
                docketValue() = 30
                isConsistent() = true
                type('n')
                undo() = 7
                arrow(0) = 0
                home(0) = 0
                undo() = 6
                undo() = 5
                writCount() = 2
                undo() = 4
                writCount() = 1
                """);
        runs.run("60 a script is one change", START + """
                run "night 3;pay 0;hear 0" = 3
                night() = 3
                undo() = 7
                night() = 0
                writCount() = 2
                isPaid(0) = false
                blocks(10) = 9
                """);
    }

    private static void undoOfEachChange(Runs runs) {
        runs.run("60 undo of each change", START + """
                setArrow(0, 2)
                undo()
                arrow(0) = 0
                setHome(0, 2)
                undo()
                home(0) = 0
                addStatue(2, 99)
                undo()
                statueCount() = 2
                isFree(2) = true
                statueByWeight(0) = 1
                addStatue(2, 1) = 2
                undo()
                issueWrit(0, 1, 1) = 2
                undo()
                issueFollower(0, 1, 1, 1) = 2
                undo()
                writCount() = 2
                issueWrit(1, 1, 1) = 2
                undo()
                addBlocks(5, 5)
                undo()
                blocks(5) = 0
                marbleByAccounts() = 90
                payBail(1) = 2
                undo()
                isPaid(1) = false
                treasury() = 0
                blocks(10) = 9
                """);
        runs.run("60 undo of a hearing and of nights", START + """
                setArrow(0, 2)
                payBail(0)
                payBail(1)
                hear(0) = 'd'
                undo()
                writCount() = 2
                causeOf(1) = 0
                dismissedTotal() = 0
                treasury() = 30
                blocks(1) = 0
                docketValue() = 30
                hear(1) = 'd'
                undo()
                setHome(0, 1)
                hear(0) = 'u'
                upheldTotal() = 1
                undo()
                upheldTotal() = 0
                pedestalOf(0) = 0
                passNights(10) = 1
                lapsedTotal() = 2
                undo()
                lapsedTotal() = 0
                night() = 0
                pedestalOf(0) = 0
                writCount() = 2
                """);
    }

    private static void notCoveredByUndo(Runs runs) {
        runs.run("60 undo leaves the output, the buffer and the scripts' errors", START + """
                save() = 2
                passNights(1)
                renderStatue(1) = 9
                run "nx" = throws.IllegalArgumentException
                run "night;arrow 09" = throws.IllegalStateException
                type('n') = 1
                undo()
                text = "1@1>1 7kg"
                type('i') = 2
                errorPosition() = 1
                failedCommand() = 1
                failureKind() = 'i'
                restore() = 2
                text = "1@1>1 7kg"
                type('g') = 3
                errorPosition() = 1
                failedCommand() = 1
                failureKind() = 'i'
                """);
    }

    private static void saveAndRestore(Runs runs) {
        runs.run("61 and 62", """
                restore() = throws.IllegalStateException
                save() = 0
                addPedestal()
                addStatue(0, 5)
                save() = 1
                addPedestal()
                addStatue(1, 5)
                undo() = 3
                restore() = 1
                undo() = throws.NoSuchElementException
                pedestalCount() = 1
                addPedestal()
                undo() = 0
                addPedestal()
                addPedestal()
                restore() = 1
                pedestalCount() = 1
                """);
        runs.run("61 and 62 undo and the snapshot", START + """
                undo() = 7
                save() = 2
                undo() = 6
                undo() = 5
                undo() = 4
                statueCount() = 1
                restore() = 2
                writCount() = 1
                restore() = 2
                undo() = throws.NoSuchElementException
                """);
        runs.run("62 a failed restore leaves what can be undone", """
                addPedestal()
                restore() = throws.IllegalStateException
                undo() = 0
                """);
    }

    private static void restoreCoversEverything(Runs runs) {
        runs.run("62 everything", START + """
                setArrow(0, 2)
                payBail(0)
                payBail(1)
                issueWrit(1, 0, 7)
                passNights(1) = 1
                setHome(0, 1)
                issueWrit(1, 9, 7) = 3
                hear(3) = 'd'
                save() = 2
                passNights(1) = 0
                setHome(0, 2)
                setArrow(2, 0)
                hear(0) = 'd'
                passNights(20)
                addStatue(1, 9) = throws.IllegalStateException
                run "pedestal;statue 3 99;block 7 9;writ 2 3 4" = 4
                restore() = 2
                night() = 1
                pedestalCount() = 3
                statueCount() = 2
                statueByWeight(0) = 1
                pedestalOf(0) = 2
                home(0) = 1
                arrow(2) = 2
                writCount() = 2
                isPaid(0) = true
                causeOf(1) = 0
                treasury() = 30
                blocks(1) = 0
                blocks(7) = 0
                blocks(10) = 6
                marbleByAccounts() = 90
                upheldTotal() = 0
                dismissedTotal() = 1
                lapsedTotal() = 1
                hear(0) = throws.IllegalStateException
                issueWrit(0, 9, 9) = 4
                """);
    }
}
