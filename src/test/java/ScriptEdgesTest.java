/** Promises 55 to 59: a test for each edge that the document names, titled with its promise. */
public final class ScriptEdgesTest {
    private static final String NO_FORM = " = throws.IllegalArgumentException";
    private static final String FAILS = " = throws.IllegalStateException";
    /** Sixty characters and nine commands. */
    private static final String LONGEST = "night;night;night;night;night;night;night;night;statue 0 099";

    private final Runs runs = new Runs();

    public static void main(String[] args) {
        ScriptEdgesTest test = new ScriptEdgesTest();
        test.type();
        test.typeWrongly();
        test.bufferIsEmptied();
        test.numbersOfCommands();
        test.numbers();
        test.eachCommand();
        test.commandsInOrder();
        test.withoutForm();
        test.failed();
        test.formComesBeforeFailure();
        test.onlyOneChange();
        test.errorPositionsAtTheEnd();
        test.errorPositionsOfSigns();
        test.errorPositionOfTheLatest();
        test.failedCommand();
        test.failedCommandOfTheLatest();
        test.failureKinds();
        test.failureKindsInOrder();
        test.runs.end();
    }

    private void type() {
        runs.run("P55: the least character", "type(32) = 1");
        runs.run("P55: the greatest character", "type(126) = 1");
        for (int code = 33; code < 126; code++) {
            runs.run("P55: every character between", "type(" + code + ") = 1");
        }
        runs.run("P55: the sixtieth character", "type \"" + LONGEST.substring(1) + "\" = 59", "type('9') = 60");
        runs.run("P55: sixty characters can be run", "addPedestal()", "type \"" + LONGEST + "\" = 60",
                "runScript() = 9", "night() = 8", "weightOf(0) = 99");
        runs.run("P55: it is no change", "addPedestal()", "type('n') = 1", "undo() = 0",
                "undo() = throws.NoSuchElementException");
    }

    private void typeWrongly() {
        runs.refusesOutside("P55: the code is too small or too large", Starts.RICH, "type(#)", 32, 126,
                Starts.ARGUMENT);
        runs.changesNothing("P55: a code of 0", Starts.RICH, "type(0) = throws.IllegalArgumentException");
        runs.changesNothing("P55: a code of 255", Starts.RICH, "type(255) = throws.IllegalArgumentException");
        runs.changesNothing("P55: a code of 65535", Starts.RICH, "type(65535) = throws.IllegalArgumentException");
        runs.refusesOutside("P55: the first character", "", "type(#)", 32, 126, Starts.ARGUMENT);
        String full = "addPedestal()\ntype \"" + LONGEST + "\" = 60\n";
        runs.changesNothing("P55: the sixty-first character", full, "type('9') = throws.IllegalStateException");
        runs.refusesOutside("P55: the code comes before the sixty characters", full, "type(#)", 32, 126,
                Starts.ARGUMENT);
        runs.run("P55: a full buffer keeps its sixty characters", full, "type(';') = throws.IllegalStateException",
                "type('x') = throws.IllegalStateException", "runScript() = 9");
        runs.run("P55: a refused character is not in the script", "type \"nigh\" = 4",
                "type(31) = throws.IllegalArgumentException", "type('t') = 5", "runScript() = 1");
    }

    private void bufferIsEmptied() {
        runs.run("P56: empty behind a script", "run \"night\" = 1", "type('n') = 1");
        runs.run("P56: empty behind a script without the form", "run \"nights\"" + NO_FORM, "type('n') = 1");
        runs.run("P56: empty behind a script that failed", "run \"hear 0\"" + FAILS, "type('n') = 1");
        runs.run("P56: empty behind sixty characters", "addPedestal()", "run \"" + LONGEST + "\" = 9",
                "run \"night\" = 1");
        runs.run("P56: empty behind sixty characters without the form", "run \"" + "night;".repeat(10) + "\"" + NO_FORM,
                "run \"night\" = 1", "night() = 1");
        runs.run("P56: the script is not run twice", "run \"night\" = 1", "runScript()" + NO_FORM, "night() = 1");
    }

    private void numbersOfCommands() {
        runs.run("P56: one command", "run \"night\" = 1", "night() = 1");
        runs.run("P56: two commands", "run \"night;night\" = 2", "night() = 2");
        runs.run("P56: ten commands, as many as there is room for", "run \"" + "night;".repeat(9) + "night\" = 10",
                "night() = 10");
        runs.run("P56: ten of the shortest commands", Starts.STATUE, "addBlocks(5, 1)", "issueWrit(0, 9, 5)",
                "run \"pay 0;night;night;night;night;night;night;night;night;night\" = 10", "isPaid(0) = true",
                "night() = 9");
    }

    private void numbers() {
        runs.run("P56: a number of one digit", "run \"night 9\" = 1", "night() = 9");
        runs.run("P56: a number of two digits", "run \"night 50\" = 1", "night() = 50");
        runs.run("P56: a number of three digits", "run \"night 050\" = 1", "night() = 50");
        runs.run("P56: a number of four digits", "run \"night 0050\"" + NO_FORM, "errorPosition() = 9", "night() = 0");
        runs.run("P56: noughts in front", Starts.STATUE, "run \"writ 0 000 001;writ 0 020 060<000\" = 2",
                "lastNight(0) = 0", "bail(0) = 1", "lastNight(1) = 20", "bail(1) = 60", "causeOf(1) = 0");
        runs.run("P56: the greatest number", "run \"hear 999\"" + FAILS, "failureKind() = 'e'");
        runs.run("P56: night without a number passes 1 night", "run \"night\" = 1", "night() = 1");
        runs.run("P56: the least and the greatest digit", Starts.EIGHT_PEDESTALS, "run \"arrow 07;arrow 70\" = 2",
                "arrow(0) = 7", "arrow(7) = 0");
        runs.run("P56: the number behind < is the cause", Starts.RICH_BUT_BUFFER, "run \"writ 0 5 6<2\" = 1",
                "causeOf(4) = 2");
        runs.run("P56: without < there is no cause", Starts.RICH_BUT_BUFFER, "run \"writ 0 5 6\" = 1",
                "causeOf(4) = throws.NoSuchElementException");
        runs.run("P56: a cause in one command is none of the next", Starts.RICH_BUT_BUFFER,
                "run \"writ 0 5 6<2;writ 0 5 6\" = 2", "causeOf(4) = 2", "causeOf(5) = throws.NoSuchElementException");
        runs.run("P56: a number in one command is none of the next", "run \"night 5;night\" = 2", "night() = 6");
        runs.run("P56: nor of the next script", "run \"night 5\" = 1", "run \"night\" = 1", "night() = 6");
    }

    private void eachCommand() {
        String[] pairs = {
            "pedestal", "addPedestal() = 4",
            "arrow 03", "setArrow(0, 3)", "arrow 30", "setArrow(3, 0)",
            "statue 2 99", "addStatue(2, 99) = 3", "statue 2 001", "addStatue(2, 1) = 3",
            "home 03", "setHome(0, 3) = 0", "home 20", "setHome(2, 0)",
            "writ 2 0 60", "issueWrit(2, 0, 60) = 4", "writ 0 20 1", "issueWrit(0, 20, 1) = 4",
            "writ 1 3 5<2", "issueFollower(1, 3, 5, 2) = 4", "writ 1 5 3<000", "issueFollower(1, 5, 3, 0) = 4",
            "block 7 9", "addBlocks(7, 9) = 9", "block 020 1", "addBlocks(20, 1) = 3",
            "pay 1", "payBail(1) = 2",
            "hear 1", "hear(1) = 'd'", "hear 2", "hear(2) = 'u'",
            "night", "passNights(1)", "night 1", "passNights(1)", "night 50", "passNights(50)"};
        String start = Starts.RICH_BUT_BUFFER + "passNights(1)\n";
        for (int i = 0; i < pairs.length; i += 2) {
            runs.same("P56: " + pairs[i] + " stands for " + pairs[i + 1], start + "run \"" + pairs[i] + "\" = 1",
                    start + pairs[i + 1]);
        }
    }

    private void commandsInOrder() {
        runs.run("P56: a command finds what the one before has done",
                "run \"pedestal;statue 0 5;writ 0 1 5;hear 0\" = 4", "dismissedTotal() = 1");
        runs.run("P56: not what the one behind does", "run \"statue 0 5;pedestal\"" + FAILS, "failedCommand() = 0",
                "pedestalCount() = 0");
        runs.run("P56: a hearing in each of two nights", Starts.STATUE, "issueWrit(0, 9, 5)", "issueWrit(0, 9, 5)",
                "run \"hear 0;night;hear 1\" = 3", "dismissedTotal() = 2");
        runs.run("P56: two hearings in a night", Starts.STATUE, "issueWrit(0, 9, 5)", "issueWrit(0, 9, 5)",
                "run \"hear 0;hear 1\"" + FAILS, "dismissedTotal() = 0", "writCount() = 2");
        runs.sameNow("P56: all commands take effect", Starts.RICH_BUT_BUFFER
                + "run \"pedestal;arrow 40;statue 4 99;home 34;block 7 9;night 2\" = 6\n"
                + "run \"pay 1;hear 1;writ 3 4 5<0\" = 3\n",
                Starts.RICH_BUT_BUFFER + """
                addPedestal() = 4
                setArrow(4, 0) = 4
                addStatue(4, 99) = 3
                setHome(3, 4) = 4
                addBlocks(7, 9) = 9
                passNights(2)
                payBail(1) = 2
                hear(1)
                issueFollower(3, 4, 5, 0) = 4
                """);
    }

    private void withoutForm() {
        runs.changesNothingButScripts("P56: an empty script", Starts.RICH_BUT_BUFFER, "runScript()" + NO_FORM);
        runs.changesNothingButScripts("P56: a script that never began right", Starts.RICH_BUT_BUFFER,
                "run \"x\"" + NO_FORM);
        runs.changesNothingButScripts("P56: a script that ends too early", Starts.RICH_BUT_BUFFER,
                "run \"pedestal;arrow 3\"" + NO_FORM);
        runs.changesNothingButScripts("P56: a script with a semicolon behind it", Starts.RICH_BUT_BUFFER,
                "run \"pedestal;\"" + NO_FORM);
        runs.changesNothingButScripts("P56: ten commands and a semicolon", Starts.RICH_BUT_BUFFER,
                "run \"" + "night;".repeat(10) + "\"" + NO_FORM);
        runs.changesNothingButScripts("P56: right commands before one that is not", Starts.RICH_BUT_BUFFER,
                "run \"night;pedestal;home 03;writ 0 5 5;day\"" + NO_FORM);
    }

    private void failed() {
        runs.changesNothingButScripts("P56: the only command fails", Starts.RICH_BUT_BUFFER, "run \"hear 9\"" + FAILS);
        runs.changesNothingButScripts("P56: the first command fails", Starts.RICH_BUT_BUFFER,
                "run \"hear 9;night;pedestal\"" + FAILS);
        runs.changesNothingButScripts("P56: the last command fails, and none takes effect", Starts.RICH_BUT_BUFFER,
                "run \"pedestal;arrow 34;home 24;writ 0 5 5;pay 1;night 9;pay 1\"" + FAILS);
        runs.changesNothingButScripts("P56: the last command fails behind a hearing", Starts.RICH_BUT_BUFFER,
                "run \"block 9 9;statue 2 9;night;hear 0;night;pay 0\"" + FAILS);
        runs.changesNothingButScripts("P56: a command between fails", Starts.RICH_BUT_BUFFER,
                "run \"night;hear 9;night\"" + FAILS);
        runs.run("P56: a script can be run behind one that failed", Starts.RICH_BUT_BUFFER,
                "run \"pedestal;hear 9\"" + FAILS, "run \"pedestal\" = 1", "pedestalCount() = 5");
    }

    private void formComesBeforeFailure() {
        runs.run("P56: a missing form comes before a command that would fail", Starts.RICH_BUT_BUFFER,
                "run \"hear 9;x\"" + NO_FORM, "errorPosition() = 7", "failedCommand() = 1", "failureKind() = 'i'");
        runs.run("P56: where the form is missing, no command has failed", "run \"hear 9;x\"" + NO_FORM,
                "failedCommand() = throws.NoSuchElementException", "failureKind() = throws.NoSuchElementException");
        runs.run("P56: numbers that are too large have the form, and fail", Starts.RICH_BUT_BUFFER,
                "run \"writ 9 999 999<999\"" + FAILS, "errorPosition() = 5");
    }

    private void onlyOneChange() {
        runs.run("P60: a script is one change", Starts.FOUR_PEDESTALS, "run \"night;night;night\" = 3", "undo() = 4",
                "night() = 0");
        runs.run("P60: a script without the form is no change", Starts.FOUR_PEDESTALS, "run \"night;x\"" + NO_FORM,
                "undo() = 3");
        runs.run("P60: a script that failed is no change", Starts.FOUR_PEDESTALS, "run \"night;hear 0\"" + FAILS,
                "undo() = 3");
        runs.run("P60: a script is a change even if the state is the same", Starts.FOUR_PEDESTALS,
                "run \"arrow 00\" = 1", "undo() = 4");
    }

    private void errorPositionsAtTheEnd() {
        String[] tooEarly = {"", "p", "pe", "pa", "pedesta", "pa", "pay", "pay ", "h", "he", "ho", "hear", "hear ",
            "home", "home ", "home 1", "a", "arrow", "arrow ", "arrow 1", "s", "statue", "statue ", "statue 1",
            "statue 1 ", "w", "writ", "writ ", "writ 1", "writ 1 ", "writ 1 1", "writ 1 123", "writ 1 1 ",
            "writ 1 1 1<", "b", "block", "block ", "block 1", "block 123", "block 1 ", "n", "nigh", "night ", "night;",
            "night;n", "night 1;", "pay 1;hear 1;night ", "night;".repeat(10)};
        for (String script : tooEarly) {
            errorPosition("P57: the length where the end comes too early", script, script.length());
        }
    }

    private void errorPositionsOfSigns() {
        errorPosition("P57: 0 where the first character is wrong", "x", 0);
        errorPosition("P57: 0 where the first character is a semicolon", ";night", 0);
        errorPosition("P57: 0 where the first character is a blank", " night", 0);
        errorPosition("P57: 0 where the first character is a capital", "Night", 0);
        errorPosition("P57: the first of several wrong ones", "nixxt;x", 2);
        errorPosition("P57: where two commands part", "px", 1);
        errorPosition("P57: behind where two commands have parted", "hoar 1", 2);
        errorPosition("P57: behind a whole command", "pedestals", 8);
        errorPosition("P57: a blank behind a whole command", "pedestal ;night", 8);
        errorPosition("P57: a blank behind a semicolon", "night; night", 6);
        errorPosition("P57: two semicolons", "night;;night", 6);
        errorPosition("P57: in the second command", "night;nx", 7);
        errorPosition("P57: two blanks", "hear  1", 5);
        errorPosition("P57: a sign instead of a digit", "hear -1", 5);
        errorPosition("P57: the sign before the digits", "arrow /1", 6);
        errorPosition("P57: the sign behind the digits", "arrow :1", 6);
        errorPosition("P57: a third digit for a pedestal", "arrow 012", 8);
        errorPosition("P57: a blank between two pedestals", "home 0 1", 6);
        errorPosition("P57: a second digit for a statue", "statue 01 5", 8);
        errorPosition("P57: a second digit for a number of blocks", "block 5 10", 9);
        errorPosition("P57: a fourth digit", "pay 1234", 7);
        errorPosition("P57: a fourth digit for a weight", "statue 0 0099", 12);
        errorPosition("P57: a fourth digit for a cause", "writ 0 1 1<1234", 14);
        errorPosition("P57: a second cause", "writ 0 1 1<1<1", 12);
        errorPosition("P57: a blank before a cause", "writ 0 1 1 <1", 10);
        errorPosition("P57: a cause of a command that has none", "hear 1<1", 6);
        errorPosition("P57: a second number of nights", "night 1 1", 7);
        errorPosition("P57: a comma instead of a semicolon", "night,night", 5);
        errorPosition("P57: the sixtieth character", "night;".repeat(9) + "night ", 60);
        errorPosition("P57: the sixtieth character is wrong", "night;".repeat(9) + "nightx", 59);
    }

    private void errorPosition(String title, String script, int position) {
        runs.run(title + ": " + script, Starts.STATUE, "run \"" + script + "\"" + NO_FORM,
                "errorPosition() = " + position, "night() = 0", "pedestalCount() = 4");
    }

    private void errorPositionOfTheLatest() {
        runs.changesNothing("P57: none", "", "errorPosition() = throws.NoSuchElementException");
        runs.changesNothing("P57: none where scripts had the form", "run \"night\" = 1\n",
                "errorPosition() = throws.NoSuchElementException");
        runs.changesNothing("P57: none where a script failed", "run \"hear 0\"" + FAILS + "\n",
                "errorPosition() = throws.NoSuchElementException");
        runs.changesNothing("P57: the latest one", Starts.RICH, "errorPosition() = 5");
        runs.run("P57: a later one", Starts.RICH_BUT_BUFFER, "run \"\"" + NO_FORM, "errorPosition() = 0",
                "run \"pay\"" + NO_FORM, "errorPosition() = 3");
        runs.run("P57: it stays behind a script that had the form", Starts.RICH_BUT_BUFFER, "run \"night\" = 1",
                "errorPosition() = 5");
        runs.run("P57: it stays behind a script that failed", Starts.RICH_BUT_BUFFER, "run \"hear 9\"" + FAILS,
                "errorPosition() = 5");
        runs.run("P57: undo and restore leave it", "save()", "addPedestal()", "run \"pay\"" + NO_FORM, "undo()",
                "errorPosition() = 3", "restore()", "errorPosition() = 3");
    }

    private void failedCommand() {
        failed("P58: the first of one", "hear 9", 0, 'e');
        failed("P58: the first of several that would fail", "hear 9;arrow 99;night 0", 0, 'e');
        failed("P58: the second", "night;arrow 99;hear 9", 1, 'i');
        failed("P58: the tenth", "night;night;night;night;night;night;night;night;night;pay 9", 9, 'e');
    }

    private void failed(String title, String script, int command, char kind) {
        runs.run(title + ": " + script, Starts.RICH_BUT_BUFFER, "run \"" + script + "\"" + FAILS,
                "failedCommand() = " + command, "failureKind() = '" + kind + "'", "night() = 0");
    }

    private void failedCommandOfTheLatest() {
        for (String call : new String[] {"P58: failedCommand", "P59: failureKind"}) {
            String name = call.substring(5);
            String none = name + "() = throws.NoSuchElementException";
            String latest = name + (name.equals("failedCommand") ? "() = 1" : "() = 'i'");
            String later = name + (name.equals("failedCommand") ? "() = 0" : "() = 'e'");
            runs.changesNothing(call + ", none", "", none);
            runs.changesNothing(call + ", none where scripts took effect", "run \"night\" = 1\n", none);
            runs.changesNothing(call + ", none where the form was missing", "run \"hear 9;\"" + NO_FORM + "\n", none);
            runs.changesNothing(call + ", none where a call failed", "hear(9) = throws.NoSuchElementException\n", none);
            runs.changesNothing(call + ", the latest one", Starts.RICH, latest);
            runs.run(call + ", a later one", Starts.RICH_BUT_BUFFER, "run \"hear 9\"" + FAILS, later);
            runs.run(call + " stays behind a script that took effect", Starts.RICH_BUT_BUFFER, "run \"night\" = 1",
                    latest);
            runs.run(call + " stays behind a script without the form", Starts.RICH_BUT_BUFFER, "run \"hear\"" + NO_FORM,
                    latest);
            runs.run(call + " stays through undo and restore", "save()", "addPedestal()",
                    "run \"night;arrow 99\"" + FAILS, "undo()", latest, "restore()", latest);
        }
    }

    private void failureKinds() {
        failed("P59: a ninth pedestal", "pedestal;pedestal;pedestal;pedestal;pedestal", 4, 's');
        failed("P59: an arrow of no pedestal", "arrow 40", 0, 'i');
        failed("P59: an arrow to no pedestal", "arrow 04", 0, 'i');
        failed("P59: a statue on no pedestal", "statue 4 5", 0, 'i');
        failed("P59: a statue too light", "statue 2 0", 0, 'a');
        failed("P59: a statue too heavy", "statue 2 100", 0, 'a');
        failed("P59: a statue where one stands", "statue 0 5", 0, 's');
        failed("P59: a home of no statue", "home 30", 0, 'i');
        failed("P59: a home on no pedestal", "home 04", 0, 'i');
        failed("P59: a writ of no statue", "writ 3 5 5", 0, 'i');
        failed("P59: a writ of too many nights", "writ 0 21 5", 0, 'a');
        failed("P59: a writ of too little bail", "writ 0 5 0", 0, 'a');
        failed("P59: a writ of too much bail", "writ 0 5 61", 0, 'a');
        failed("P59: a follower of a closed writ", "writ 0 5 5<3", 0, 'e');
        failed("P59: a follower of itself", "writ 0 5 5<4", 0, 'e');
        failed("P59: blocks too light", "block 0 5", 0, 'a');
        failed("P59: blocks too heavy", "block 21 5", 0, 'a');
        failed("P59: no blocks", "block 5 0", 0, 'a');
        failed("P59: bail of a closed writ", "pay 3", 0, 'e');
        failed("P59: bail that is paid", "pay 0", 0, 's');
        failed("P59: bail that no blocks add up to", "pay 2", 0, 'u');
        failed("P59: a hearing of a closed writ", "hear 3", 0, 'e');
        failed("P59: a second hearing in a night", "hear 0", 0, 's');
        failed("P59: no nights", "night 0", 0, 'a');
        failed("P59: too many nights", "night 51", 0, 'a');
        runs.run("P59: a ninth writ", Starts.FULL, "run \"writ 0 5 5\"" + FAILS, "failureKind() = 's'");
        runs.run("P59: a ninth writ with a cause", Starts.FULL, "run \"writ 0 5 5<7\"" + FAILS,
                "failureKind() = 's'");
        runs.run("P59: a seventh statue", Starts.FULL, "run \"statue 6 5\"" + FAILS, "failureKind() = 's'");
        runs.run("P59: a hundredth block", Starts.FULL, "run \"block 3 1\"" + FAILS, "failureKind() = 's'");
    }

    private void failureKindsInOrder() {
        failed("P59: no such pedestal before the weight", "statue 9 0", 0, 'i');
        failed("P59: the weight before the statue that stands there", "statue 0 0", 0, 'a');
        failed("P59: no such statue before the nights", "writ 9 21 61", 0, 'i');
        failed("P59: no such statue before the cause", "writ 9 21 61<9", 0, 'i');
        failed("P59: the nights before the cause", "writ 0 21 5<9", 0, 'a');
        failed("P59: no such writ before the hearing that was held", "hear 9", 0, 'e');
        runs.run("P59: the cause before the eight writs", Starts.FULL, "run \"writ 0 5 5<8\"" + FAILS,
                "failureKind() = 'e'");
        runs.run("P59: the bail before the eight writs", Starts.FULL, "run \"writ 0 5 61\"" + FAILS,
                "failureKind() = 'a'");
        runs.run("P59: the count before the 99 blocks", Starts.FULL, "run \"block 3 0\"" + FAILS,
                "failureKind() = 'a'");
        runs.run("P59: the paid bail before blocks that do not add up", Starts.STATUE, "addBlocks(5, 1)",
                "issueWrit(0, 9, 5)", "run \"pay 0;pay 0\"" + FAILS, "failedCommand() = 1", "failureKind() = 's'");
    }
}
