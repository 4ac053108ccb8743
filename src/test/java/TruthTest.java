/** Promises 10 to 13: truth, wrong, help and helps. */
public final class TruthTest {
    private static final Due due = new Due();

    public static void main(String[] args) {
        whatMayBeTrue();
        wrongCounts();
        truthMayChange();
        helpTakesTheLeastPlace();
        helpIsARow();
        noHelp();
        helpKeepsMarks();
        due.end();
    }

    private static void whatMayBeTrue() {
        PlayStates x = new PlayStates(3);
        for (int v = 0; v <= 9; v++) {
            due.same("truth(2, " + v + ")", x.truth(2, v), true);
        }
        int[][] calls = {{-1, 1}, {3, 1}, {81, 1}, {Integer.MIN_VALUE, 1}, {Integer.MAX_VALUE, 1},
            {0, -1}, {0, 10}, {0, Integer.MIN_VALUE}, {0, Integer.MAX_VALUE}};
        for (int[] c : calls) {
            due.same("truth(" + c[0] + ", " + c[1] + ")", x.truth(c[0], c[1]), false);
        }
        x.person();
        x.enter(0, 0, 5);
        due.same("wrong(0): refused truth told nothing", x.wrong(0), 0);
    }

    private static void wrongCounts() {
        PlayStates x = new PlayStates(5);
        due.same("wrong(0) without persons", x.wrong(0), -1);
        x.person();
        x.person();
        x.truth(0, 1);
        x.truth(1, 2);
        x.truth(2, 3);
        x.truth(4, 9);
        due.same("wrong(0) without entries", x.wrong(0), 0);
        x.enter(0, 0, 1);
        due.same("wrong(0), a right one", x.wrong(0), 0);
        x.enter(0, 1, 3);
        due.same("wrong(0), one wrong", x.wrong(0), 1);
        x.enter(0, 3, 7);
        due.same("wrong(0), nothing told there", x.wrong(0), 1);
        x.enter(0, 4, 8);
        due.same("wrong(0), the last place", x.wrong(0), 2);
        x.enter(0, 0, 2);
        due.same("wrong(0), the first place", x.wrong(0), 3);
        x.mark(0, 2, 1, true);
        due.same("wrong(0), a mark is no entry", x.wrong(0), 3);
        due.same("wrong(1), another person", x.wrong(1), 0);
        x.undo(0);
        x.undo(0);
        due.same("wrong(0) after undo", x.wrong(0), 2);
        due.same("wrong(-1)", x.wrong(-1), -1);
        due.same("wrong(2)", x.wrong(2), -1);
        due.same("wrong(least)", x.wrong(Integer.MIN_VALUE), -1);
        due.same("wrong(greatest)", x.wrong(Integer.MAX_VALUE), -1);
        due.same("rows() are not changed by wrong", x.rows(), 6);
    }

    private static void truthMayChange() {
        PlayStates x = new PlayStates(1);
        x.person();
        x.enter(0, 0, 5);
        x.truth(0, 6);
        due.same("wrong(0)", x.wrong(0), 1);
        x.truth(0, 5);
        due.same("wrong(0), right now", x.wrong(0), 0);
        x.truth(0, 6);
        x.truth(0, 10);
        x.truth(0, -1);
        due.same("wrong(0), refused truth changes nothing", x.wrong(0), 1);
        x.truth(0, 0);
        due.same("wrong(0), not told any more", x.wrong(0), 0);
        x.enter(0, 0, 0);
        due.same("help(0), not told any more", x.help(0), -1);
    }

    private static void helpTakesTheLeastPlace() {
        PlayStates x = new PlayStates(6);
        x.person();
        x.truth(5, 5);
        x.truth(1, 1);
        x.truth(3, 3);
        x.enter(0, 1, 9);
        due.same("help(0): not the one with a wrong entry", x.help(0), 3);
        due.same("at(0, 3)", x.at(0, 3), 3);
        due.same("help(0)", x.help(0), 5);
        due.same("at(0, 5)", x.at(0, 5), 5);
        due.same("help(0): none is left", x.help(0), -1);
        due.same("helps(0)", x.helps(0), 2);
        due.same("at(0, 1)", x.at(0, 1), 9);
        x.enter(0, 1, 0);
        due.same("help(0): free again", x.help(0), 1);
        due.same("at(0, 1)", x.at(0, 1), 1);
        x.truth(0, 8);
        due.same("help(0): the first place", x.help(0), 0);
        due.same("helps(0)", x.helps(0), 4);
        due.same("state", Due.saved(x, 0), "81.3.5");
    }

    private static void helpIsARow() {
        PlayStates x = new PlayStates(2);
        x.person();
        x.person();
        x.truth(1, 4);
        x.enter(0, 0, 2);
        due.same("help(0)", x.help(0), 1);
        due.same("rows()", x.rows(), 2);
        due.same("undo(0)", x.undo(0), 1);
        due.same("at(0, 1)", x.at(0, 1), 0);
        due.same("helps(0), undone ones too", x.helps(0), 1);
        due.same("redo(0, 0)", x.redo(0, 0), 1);
        due.same("at(0, 1)", x.at(0, 1), 4);
        due.same("helps(0), redo is no help", x.helps(0), 1);
        x.undo(0);
        due.same("help(0) once more", x.help(0), 1);
        due.same("helps(0)", x.helps(0), 2);
        due.same("undo(0)", x.undo(0), 2);
        due.same("branches(0)", x.branches(0), 2);
        due.same("helps(1)", x.helps(1), 0);
        x.enter(1, 1, 4);
        due.same("helps(1), an entry is no help", x.helps(1), 0);
    }

    private static void noHelp() {
        PlayStates x = new PlayStates(2);
        x.truth(0, 1);
        int[] none = {-1, 0, 1, 8, Integer.MIN_VALUE, Integer.MAX_VALUE};
        for (int person : none) {
            due.same("help(" + person + ")", x.help(person), -1);
            due.same("helps(" + person + ")", x.helps(person), -1);
        }
        x.person();
        due.same("helps(0) at first", x.helps(0), 0);
        due.same("help(1)", x.help(1), -1);
        due.same("helps(1)", x.helps(1), -1);
        x.enter(0, 0, 3);
        due.same("help(0), no such place", x.help(0), -1);
        due.same("helps(0), a refused one does not count", x.helps(0), 0);
        due.same("rows()", x.rows(), 1);
    }

    private static void helpKeepsMarks() {
        PlayStates x = new PlayStates(1);
        x.person();
        x.truth(0, 6);
        x.mark(0, 0, 7, true);
        due.same("help(0) at a marked place", x.help(0), 0);
        due.same("state", Due.saved(x, 0), "6(7)");
    }
}
