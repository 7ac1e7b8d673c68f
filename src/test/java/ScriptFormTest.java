/**
 * Promises 56 and 57: every beginning of every form of a command, with every sign behind it. Whether it has the form,
 * and its error position, are told by the form written as a pattern.
 */
public final class ScriptFormTest {
    private static final String[] WHOLE = {"pedestal;", "arrow 09;", "statue 0 123;", "home 90;", "writ 0 123 456;",
        "writ 0 1 2<789;", "block 123 9;", "pay 123;", "hear 123;", "night;", "night 123;"};
    private static final String[] BEFORE = {"", "night 5;"};

    private int wrong = 0;

    public static void main(String[] args) {
        ScriptFormTest test = new ScriptFormTest();
        for (String before : BEFORE) {
            for (String whole : WHOLE) {
                for (int length = 0; length <= whole.length(); length++) {
                    test.checkWithEverySign(before + whole.substring(0, length));
                }
            }
        }
        if (test.wrong > 0) {
            System.exit(1);
        }
    }

    private void checkWithEverySign(String beginning) {
        check(beginning);
        for (char sign = 32; sign <= 126; sign++) {
            check(beginning + sign);
        }
    }

    private void check(String script) {
        boolean hasForm = Model.SCRIPT.matcher(script).matches();
        int due = hasForm ? -1 : Model.firstWrong(script);
        int got = errorPosition(script);
        if (got != due) {
            wrong++;
            System.out.println("P57: " + script + " -- answered " + got + " instead of " + due);
        }
    }

    /** Returns -1 if the script has the form: then it takes effect, or it fails because of its numbers. */
    private static int errorPosition(String script) {
        StatueChancery chancery = new StatueChancery();
        for (char sign : script.toCharArray()) {
            chancery.type(sign);
        }
        try {
            chancery.runScript();
            return -1;
        } catch (IllegalArgumentException e) {
            return chancery.errorPosition();
        } catch (IllegalStateException e) {
            return -1;
        }
    }
}
