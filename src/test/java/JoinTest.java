/** Promise 16: join. */
public final class JoinTest {
    private static final Due due = new Due();

    public static void main(String[] args) {
        noSuchPersons();
        orderOfNumbers();
        whatChangesNothingIsLeftOut();
        onlyTheWayToThePresent();
        oneNewBranch();
        emptyOnes();
        helpsBeginAnew();
        eightPersons();
        joinOfJoined();
        due.end();
    }

    private static PlayStates withPersons(int places, int n) {
        PlayStates x = new PlayStates(places);
        for (int i = 0; i < n; i++) {
            x.person();
        }
        return x;
    }

    private static void noSuchPersons() {
        PlayStates x = withPersons(1, 2);
        x.enter(0, 0, 1);
        int[][] calls = {{0, 0}, {1, 1}, {0, 2}, {2, 0}, {-1, 0}, {0, -1}, {0, 8}, {8, 0}, {-1, -1},
            {Integer.MIN_VALUE, 0}, {0, Integer.MAX_VALUE}};
        for (int[] c : calls) {
            due.same("join(" + c[0] + ", " + c[1] + ")", x.join(c[0], c[1]), -1);
        }
        due.same("rows() after wrong calls", x.rows(), 1);
        due.same("person() after wrong calls", x.person(), 2);
    }

    private static void orderOfNumbers() {
        PlayStates x = withPersons(2, 2);
        x.enter(0, 0, 1);
        x.enter(1, 0, 2);
        x.enter(0, 1, 3);
        x.enter(1, 1, 4);
        x.enter(0, 1, 5);
        due.same("join(0, 1)", x.join(0, 1), 2);
        due.same("rows()", x.rows(), 10);
        due.same("state", Due.saved(x, 2), "25");
        String[] states = {"24", "23", "2.", "1.", ".."};
        for (int i = 0; i < states.length; i++) {
            due.same("undo(2)", x.undo(2), 9 - i);
            due.same("state", Due.saved(x, 2), states[i]);
        }
        due.same("undo(2) at the root", x.undo(2), -1);
        due.same("join(1, 0) is as join(0, 1)", x.join(1, 0), 3);
        due.same("state", Due.saved(x, 3), "25");
        due.same("the first is as it was", Due.saved(x, 0), "15");
        due.same("the second is as it was", Due.saved(x, 1), "24");
        due.same("undo(0)", x.undo(0), 4);
        due.same("undo(1)", x.undo(1), 3);
    }

    private static void whatChangesNothingIsLeftOut() {
        PlayStates x = withPersons(2, 2);
        x.enter(0, 0, 1);
        x.enter(1, 0, 1);
        x.mark(1, 1, 5, true);
        x.mark(0, 1, 5, true);
        x.mark(0, 1, 5, false);
        x.mark(1, 1, 5, false);
        x.enter(1, 0, 0);
        x.enter(0, 0, 0);
        due.same("join(0, 1)", x.join(0, 1), 2);
        due.same("rows()", x.rows(), 12);
        due.same("state", Due.saved(x, 2), "..");
        due.same("undo(2)", x.undo(2), 11);
        due.same("state", Due.saved(x, 2), "1.");
        due.same("undo(2)", x.undo(2), 10);
        due.same("state", Due.saved(x, 2), "1.(5)");
        due.same("undo(2)", x.undo(2), 9);
        due.same("state", Due.saved(x, 2), "1.");
        due.same("undo(2)", x.undo(2), 8);
        due.same("state", Due.saved(x, 2), "..");
        due.same("undo(2)", x.undo(2), -1);
    }

    private static void onlyTheWayToThePresent() {
        PlayStates x = withPersons(4, 2);
        x.enter(0, 0, 1);
        x.enter(0, 1, 2);
        x.undo(0);
        x.enter(0, 2, 3);
        x.enter(1, 3, 4);
        x.enter(1, 3, 5);
        x.undo(1);
        due.same("join(0, 1)", x.join(0, 1), 2);
        due.same("state", Due.saved(x, 2), "1.34");
        due.same("rows()", x.rows(), 8);
        x.undo(0);
        x.redo(0, 0);
        x.redo(1, 0);
        due.same("join(1, 0)", x.join(1, 0), 3);
        due.same("state", Due.saved(x, 3), "12.5");
        due.same("rows()", x.rows(), 12);
        due.same("undo(3)", x.undo(3), 11);
        due.same("the order of numbers, not of doing", Due.saved(x, 3), "12.4");
    }

    private static void oneNewBranch() {
        PlayStates x = withPersons(2, 2);
        x.enter(0, 0, 1);
        x.undo(0);
        x.enter(0, 0, 2);
        x.enter(1, 1, 3);
        due.same("join(0, 1)", x.join(0, 1), 2);
        due.same("branches(2)", x.branches(2), 0);
        x.undo(2);
        due.same("branches(2)", x.branches(2), 1);
        x.undo(2);
        due.same("branches(2) of the root", x.branches(2), 1);
        due.same("redo(2, 0)", x.redo(2, 0), 3);
        due.same("redo(2, 0)", x.redo(2, 0), 4);
        due.same("a row behind them", x.enter(2, 0, 7), 5);
        x.undo(0);
        due.same("branches(0) of its own root", x.branches(0), 2);
    }

    private static void emptyOnes() {
        PlayStates x = withPersons(1, 2);
        due.same("join of two roots", x.join(0, 1), 2);
        due.same("rows()", x.rows(), 0);
        due.same("undo(2)", x.undo(2), -1);
        due.same("state", Due.saved(x, 2), ".");
        x.enter(1, 0, 4);
        due.same("join with one root", x.join(0, 1), 3);
        due.same("state", Due.saved(x, 3), "4");
        x.undo(1);
        due.same("join when all is undone", x.join(0, 1), 4);
        due.same("state", Due.saved(x, 4), ".");
        due.same("rows()", x.rows(), 2);
    }

    private static void helpsBeginAnew() {
        PlayStates x = withPersons(2, 2);
        x.truth(0, 1);
        x.help(0);
        x.help(1);
        due.same("join(0, 1)", x.join(0, 1), 2);
        due.same("helps(2)", x.helps(2), 0);
        due.same("helps(0)", x.helps(0), 1);
        due.same("at(2, 0)", x.at(2, 0), 1);
    }

    private static void eightPersons() {
        PlayStates x = withPersons(1, 7);
        x.enter(0, 0, 1);
        due.same("join(0, 6), the eighth", x.join(0, 6), 7);
        due.same("join(0, 6), no ninth", x.join(0, 6), -1);
        due.same("rows()", x.rows(), 2);
    }

    private static void joinOfJoined() {
        PlayStates x = withPersons(3, 3);
        x.enter(0, 0, 1);
        x.enter(1, 1, 2);
        x.enter(2, 0, 9);
        x.enter(2, 2, 3);
        due.same("join(0, 1)", x.join(0, 1), 3);
        due.same("join(3, 2)", x.join(3, 2), 4);
        due.same("joined rows are later than 2's", Due.saved(x, 4), "123");
        due.same("rows()", x.rows(), 10);
        due.same("join(0, 3)", x.join(0, 3), 5);
        due.same("what both have comes once", x.rows(), 12);
    }
}
