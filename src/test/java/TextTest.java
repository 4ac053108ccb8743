/** Promises 17, 18 and 19: save, unit and load. */
public final class TextTest {
    private static final Due due = new Due();

    public static void main(String[] args) {
        saveOfNone();
        saveTexts();
        units();
        wrongTexts();
        rightTexts();
        whatCameIsGone();
        loadMakesRows();
        loadedPersonBeginsAnew();
        eightPersons();
        due.end();
    }

    private static void saveOfNone() {
        PlayStates x = new PlayStates(2);
        due.same("save(0, 0) without persons", x.save(0, 0), -1);
        x.person();
        int[][] none = {{-1, 0}, {1, 0}, {8, 0}, {0, -1}, {0, 2}, {0, 1000}, {0, Integer.MAX_VALUE},
            {0, Integer.MIN_VALUE}, {Integer.MIN_VALUE, 0}, {Integer.MAX_VALUE, 0}};
        for (int[] c : none) {
            due.same("save(" + c[0] + ", " + c[1] + ")", x.save(c[0], c[1]), -1);
        }
        due.same("save(0, 0)", x.save(0, 0), 46);
        due.same("save(0, 1)", x.save(0, 1), 46);
    }

    private static void saveTexts() {
        PlayStates x = new PlayStates(3);
        x.person();
        x.mark(0, 0, 9, true);
        x.mark(0, 0, 1, true);
        x.mark(0, 0, 5, true);
        x.enter(0, 1, 9);
        x.enter(0, 2, 1);
        x.mark(0, 2, 2, true);
        due.same("state", Due.saved(x, 0), ".(159)91(2)");
        x.mark(0, 0, 5, false);
        due.same("state", Due.saved(x, 0), ".(19)91(2)");
        x.undo(0);
        x.undo(0);
        due.same("state", Due.saved(x, 0), ".(159)91");
        x.enter(0, 0, 4);
        due.same("state", Due.saved(x, 0), "4(159)91");
        due.same("save(0, 1)", x.save(0, 1), 40);
        due.same("save(0, 5)", x.save(0, 5), 41);
        due.same("save(0, 7)", x.save(0, 7), 49);
        due.same("save(0, 8)", x.save(0, 8), -1);
    }

    private static void units() {
        PlayStates x = new PlayStates(1);
        int[] right = {0, 1, 46, 127, 128, 255};
        for (int u : right) {
            due.same("unit(" + u + ")", x.unit(u), true);
        }
        int[] not = {-1, 256, 302, Integer.MIN_VALUE, Integer.MAX_VALUE};
        for (int u : not) {
            due.same("unit(" + u + ")", x.unit(u), false);
        }
        due.same("load()", x.load(), -1);
        x.unit(-1);
        x.unit(256 + 46);
        x.unit(46);
        due.same("refused units are not read", x.load(), 0);
    }

    private static void wrongTexts() {
        String[] texts = {"", "0.", ".0", ".", "1", "...", "..1", "..(", "..(1", "..(1)(", "..(1).", "..(1)(2)",
            "(", "(1)..", ".(", ".(.", ".()", ".(0", ".(01)", ".(1", ".(11)", ".(21).", ".(123", ".(123).(1",
            ".(1)(2).", ".(1)", ".(1))", ")", ".)", "..)", ".(1(", ".(1 ).", " ..", ". .", "..\n", "a.", "./",
            ".:", ".(:", ".(/", ".(1.", ".(12345678", ".(123456789", ".(1234567899)", ".(1234567890)", "\u00ff",
            ".\u0000", ".(\u0000", ".\u00b1"};
        int[] bad = {0, 0, 1, 1, 1, 2, 2, 3, 4, 5, 5, 5,
            0, 0, 2, 2, 2, 2, 2, 3, 3, 3, 5, 9,
            4, 4, 4, 0, 1, 2, 3, 3, 0, 1, 2, 0, 1,
            1, 2, 2, 3, 10, 11, 11, 11, 0,
            1, 2, 1};
        due.same("a place for each text", texts.length, bad.length);
        for (int i = 0; i < texts.length; i++) {
            PlayStates x = new PlayStates(2);
            due.same("load() of '" + texts[i] + "'", Due.load(x, texts[i]), -1 - bad[i]);
            due.same("load() of '(1).' behind '" + texts[i] + "'", Due.load(x, "(1)."), -1);
            due.same("rows() after '" + texts[i] + "'", x.rows(), 0);
            due.same("person() after '" + texts[i] + "'", x.person(), 0);
        }
    }

    private static void rightTexts() {
        String[] texts = {"..", "1.", ".9", "12", ".(1).", "..(9)", "5(5)5(5)", ".(123456789)9(123456789)", ".(19)7(28)"};
        int[] rows = {0, 1, 1, 2, 1, 1, 4, 19, 5};
        for (int i = 0; i < texts.length; i++) {
            PlayStates x = new PlayStates(2);
            due.same("load() of '" + texts[i] + "'", Due.load(x, texts[i]), 0);
            due.same("state", Due.saved(x, 0), texts[i]);
            due.same("rows() of '" + texts[i] + "'", x.rows(), rows[i]);
        }
    }

    private static void whatCameIsGone() {
        PlayStates x = new PlayStates(1);
        due.same("load() of '1'", Due.load(x, "1"), 0);
        due.same("load() at once again", x.load(), -1);
        due.same("load() of 'x'", Due.load(x, "x"), -1);
        due.same("load() of '2'", Due.load(x, "2"), 1);
        due.same("load() of '2(1'", Due.load(x, "2(1"), -4);
        due.same("load() of '.'", Due.load(x, "."), 2);
        due.same("state, nothing left of earlier texts", Due.saved(x, 2), ".");
        due.same("load() of '3(4)'", Due.load(x, "3(4)"), 3);
        due.same("load() of '3'", Due.load(x, "3"), 4);
        due.same("state, nothing left of earlier texts", Due.saved(x, 4), "3");
    }

    private static void loadMakesRows() {
        PlayStates x = new PlayStates(3);
        x.person();
        x.enter(0, 0, 9);
        due.same("load()", Due.load(x, "1(28).3(4)"), 1);
        due.same("rows()", x.rows(), 6);
        due.same("branches(1)", x.branches(1), 0);
        String[] states = {"1(28).3", "1(28)..", "1(2)..", "1..", "..."};
        for (int i = 0; i < states.length; i++) {
            due.same("undo(1)", x.undo(1), 5 - i);
            due.same("state", Due.saved(x, 1), states[i]);
            due.same("branches(1)", x.branches(1), 1);
        }
        due.same("undo(1) at the root", x.undo(1), -1);
        due.same("redo(1, 0)", x.redo(1, 0), 1);
        due.same("the other person is as it was", Due.saved(x, 0), "9..");
    }

    private static void loadedPersonBeginsAnew() {
        PlayStates x = new PlayStates(1);
        x.truth(0, 1);
        x.person();
        x.help(0);
        x.timer(0, 5, true);
        due.same("load()", Due.load(x, "1"), 1);
        due.same("helps(1)", x.helps(1), 0);
        due.same("time(1, 2)", x.time(1, 2), 0);
        due.same("enter(1, 0, 1) is there already", x.enter(1, 0, 1), -1);
    }

    private static void eightPersons() {
        PlayStates x = new PlayStates(1);
        for (int i = 0; i < 7; i++) {
            x.person();
        }
        due.same("load(), the eighth", Due.load(x, "5"), 7);
        due.same("load(), no ninth", Due.load(x, "5"), -1001);
        due.same("load(), no ninth without rows", Due.load(x, "."), -1001);
        due.same("load() of a wrong text tells the place", Due.load(x, "5x"), -2);
        due.same("load() of nothing", x.load(), -1);
        due.same("rows()", x.rows(), 1);
    }
}
