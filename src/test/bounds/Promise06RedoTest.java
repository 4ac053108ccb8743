/** Promise 6: "REDO of branch k (0 the first one that came): the row; -1 when there is none such." */
public final class Promise06RedoTest {
    private static final Due due = new Due();

    public static void main(String[] args) {
        noSuchBranch();
        noBranches();
        noSuchPerson();
        manyBranches();
        fullRoom();
        due.end();
    }

    /** Three branches at the root of person 0, rows 0, 2 and 3; row 1 is of person 1. */
    private static Play threeBranches() {
        Play x = Play.withPersons(3, 2);
        x.truth(0, 2);
        x.enter(0, 0, 1);
        x.undo(0);
        x.enter(1, 0, 9);
        x.mark(0, 1, 2, true);
        x.undo(0);
        x.enter(0, 2, 3);
        x.undo(0);
        return x;
    }

    /** Promise 6: "(0 the first one that came)" and "-1 when there is none such". */
    private static void noSuchBranch() {
        String[] texts = {"1..", "..(2).", "..3"};
        int[] rows = {0, 2, 3};
        for (int k = 0; k < 3; k++) {
            Play x = threeBranches();
            due.same("redo(0, " + k + ")", x.redo(0, k), rows[k]);
            due.same("saved(0)", x.saved(0), texts[k]);
            due.same("present(0)", x.present(0), rows[k]);
        }
        for (int k : new int[] {-1, 3, 4, 599, 600, Integer.MIN_VALUE, Integer.MAX_VALUE}) {
            due.doesNothing(Promise06RedoTest::threeBranches, "redo(0, " + k + ")", x -> x.redo(0, k), -1);
        }
    }

    private static void noBranches() {
        for (int k : new int[] {-1, 0, 1}) {
            due.doesNothing(Promise06RedoTest::threeBranches, "redo(1, " + k + ")", x -> x.redo(1, k), -1);
            due.doesNothing(() -> Play.withPersons(3, 2), "redo(0, " + k + ") at first", x -> x.redo(0, k), -1);
        }
    }

    private static void noSuchPerson() {
        for (int person : Play.NOT_PERSONS) {
            due.doesNothing(Promise06RedoTest::threeBranches, "redo(" + person + ", 0)", x -> x.redo(person, 0), -1);
        }
        due.doesNothing(() -> new Play(3), "redo(0, 0) without persons", x -> x.redo(0, 0), -1);
    }

    private static void manyBranches() {
        Play x = Play.withPersons(1, 1);
        for (int n = 0; n < 250; n++) {
            x.enter(0, 0, 1 + n % 9);
            x.undo(0);
        }
        due.same("redo(0, 250)", x.redo(0, 250), -1);
        due.same("redo(0, -1)", x.redo(0, -1), -1);
        due.same("redo(0, 249)", x.redo(0, 249), 249);
        due.same("at(0, 0)", x.at(0, 0), 1 + 249 % 9);
        due.same("undo(0)", x.undo(0), 249);
        due.same("redo(0, 0)", x.redo(0, 0), 0);
        due.same("at(0, 0)", x.at(0, 0), 1);
    }

    /** A redo needs no row: it is not refused in a full room. */
    private static void fullRoom() {
        Play x = Play.withRows(600);
        x.undo(5);
        due.same("redo(5, 1)", x.redo(5, 1), -1);
        due.same("redo(5, 0), the last row", x.redo(5, 0), 599);
        due.same("redo(5, 0), nothing behind the last row", x.redo(5, 0), -1);
        due.same("rows()", x.rows(), 600);
    }
}
