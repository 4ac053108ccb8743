/** Promises 5, 6 and 7: undo, redo and branches over the tree of rows. */
public final class TreeTest {
    private static final Due due = new Due();

    public static void main(String[] args) {
        noSuchPerson();
        root();
        undoBringsBackWhatWasThere();
        undoOfMarks();
        branchesComeInOrder();
        rootsAreApart();
        branchesOfOthersDoNotCount();
        newRowAfterUndo();
        undoneRowsStayCounted();
        due.end();
    }

    private static void noSuchPerson() {
        PlayStates x = new PlayStates(1);
        int[] none = {-1, 0, 1, 7, 8, Integer.MIN_VALUE, Integer.MAX_VALUE};
        for (int person : none) {
            due.same("undo(" + person + ")", x.undo(person), -1);
            due.same("redo(" + person + ", 0)", x.redo(person, 0), -1);
            due.same("branches(" + person + ")", x.branches(person), -1);
        }
        x.person();
        due.same("undo(1)", x.undo(1), -1);
        due.same("redo(1, 0)", x.redo(1, 0), -1);
        due.same("branches(1)", x.branches(1), -1);
    }

    private static void root() {
        PlayStates x = new PlayStates(1);
        x.person();
        due.same("undo(0) at the root", x.undo(0), -1);
        due.same("redo(0, 0) at the root", x.redo(0, 0), -1);
        due.same("branches(0) at the root", x.branches(0), 0);
        x.enter(0, 0, 1);
        due.same("branches(0) at the row", x.branches(0), 0);
        due.same("undo(0)", x.undo(0), 0);
        due.same("undo(0) at the root again", x.undo(0), -1);
        due.same("branches(0) at the root again", x.branches(0), 1);
        due.same("redo(0, -1)", x.redo(0, -1), -1);
        due.same("redo(0, 1)", x.redo(0, 1), -1);
        due.same("redo(0, least)", x.redo(0, Integer.MIN_VALUE), -1);
        due.same("redo(0, greatest)", x.redo(0, Integer.MAX_VALUE), -1);
        due.same("at(0, 0) after wrong redos", x.at(0, 0), 0);
        due.same("redo(0, 0)", x.redo(0, 0), 0);
        due.same("at(0, 0)", x.at(0, 0), 1);
    }

    private static void undoBringsBackWhatWasThere() {
        PlayStates x = new PlayStates(2);
        x.person();
        x.enter(0, 1, 4);
        x.enter(0, 1, 7);
        x.enter(0, 1, 0);
        due.same("undo of taking away", x.undo(0), 2);
        due.same("at(0, 1)", x.at(0, 1), 7);
        due.same("undo of entering over", x.undo(0), 1);
        due.same("at(0, 1)", x.at(0, 1), 4);
        due.same("undo of the first entry", x.undo(0), 0);
        due.same("at(0, 1)", x.at(0, 1), 0);
        due.same("redo", x.redo(0, 0), 0);
        due.same("redo", x.redo(0, 0), 1);
        due.same("at(0, 1)", x.at(0, 1), 7);
        due.same("redo", x.redo(0, 0), 2);
        due.same("at(0, 1)", x.at(0, 1), 0);
        due.same("rows()", x.rows(), 3);
    }

    private static void undoOfMarks() {
        PlayStates x = new PlayStates(1);
        x.person();
        x.mark(0, 0, 9, true);
        x.mark(0, 0, 1, true);
        x.mark(0, 0, 9, false);
        x.enter(0, 0, 9);
        due.same("undo of the entry", x.undo(0), 3);
        due.same("state", Due.saved(x, 0), ".(1)");
        due.same("undo of taking", x.undo(0), 2);
        due.same("state", Due.saved(x, 0), ".(19)");
        due.same("undo of putting", x.undo(0), 1);
        due.same("state", Due.saved(x, 0), ".(9)");
        due.same("undo of putting", x.undo(0), 0);
        due.same("state", Due.saved(x, 0), ".");
        x.redo(0, 0);
        x.redo(0, 0);
        due.same("state", Due.saved(x, 0), ".(19)");
        due.same("redo of taking", x.redo(0, 0), 2);
        due.same("state", Due.saved(x, 0), ".(1)");
    }

    private static void branchesComeInOrder() {
        PlayStates x = new PlayStates(3);
        x.person();
        x.enter(0, 0, 5);
        for (int v = 1; v <= 4; v++) {
            due.same("enter", x.enter(0, 1, v), v);
            due.same("undo", x.undo(0), v);
            due.same("branches(0)", x.branches(0), v);
        }
        for (int k = 3; k >= 0; k--) {
            due.same("redo(0, k)", x.redo(0, k), k + 1);
            due.same("at(0, 1)", x.at(0, 1), k + 1);
            due.same("branches(0) behind it", x.branches(0), 0);
            x.undo(0);
        }
        due.same("redo(0, 4)", x.redo(0, 4), -1);
        x.redo(0, 2);
        due.same("a row behind a branch", x.mark(0, 2, 8, true), 5);
        due.same("undo", x.undo(0), 5);
        due.same("branches(0), those behind at once", x.branches(0), 1);
        due.same("undo", x.undo(0), 3);
        due.same("branches(0), those behind at once", x.branches(0), 4);
        due.same("redo is of the order of coming, not of doing", x.redo(0, 0), 1);
    }

    private static void rootsAreApart() {
        PlayStates x = new PlayStates(1);
        for (int person = 0; person < 8; person++) {
            x.person();
        }
        for (int person = 7; person >= 0; person--) {
            x.enter(person, 0, 1);
            x.undo(person);
            due.same("branches of a root", x.branches(person), 1);
        }
        for (int person = 0; person < 8; person++) {
            due.same("redo from a root", x.redo(person, 0), 7 - person);
            due.same("no second branch", x.redo(person, 1), -1);
        }
    }

    private static void branchesOfOthersDoNotCount() {
        PlayStates x = new PlayStates(2);
        x.person();
        x.person();
        x.enter(0, 0, 1);
        x.enter(1, 0, 2);
        x.enter(0, 1, 3);
        x.enter(1, 1, 4);
        due.same("undo(0)", x.undo(0), 2);
        due.same("undo(0)", x.undo(0), 0);
        due.same("at(1, 0)", x.at(1, 0), 2);
        due.same("branches(0)", x.branches(0), 1);
        due.same("branches(1)", x.branches(1), 0);
        due.same("undo(1)", x.undo(1), 3);
        due.same("redo(0, 0)", x.redo(0, 0), 0);
        due.same("redo(0, 0)", x.redo(0, 0), 2);
        due.same("redo(1, 0)", x.redo(1, 0), 3);
    }

    private static void newRowAfterUndo() {
        PlayStates x = new PlayStates(1);
        x.person();
        x.enter(0, 0, 1);
        x.undo(0);
        due.same("the same entry once more is a new row", x.enter(0, 0, 1), 1);
        due.same("it is the present one", x.branches(0), 0);
        due.same("undo", x.undo(0), 1);
        due.same("two branches", x.branches(0), 2);
    }

    private static void undoneRowsStayCounted() {
        PlayStates x = new PlayStates(1);
        x.person();
        x.enter(0, 0, 1);
        x.undo(0);
        due.same("rows() after undo", x.rows(), 1);
        x.redo(0, 0);
        due.same("rows() after redo", x.rows(), 1);
    }
}
