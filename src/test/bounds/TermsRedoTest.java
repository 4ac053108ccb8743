/**
 * Terms: "REDO: of the rows behind the present one, in the order in which they came, one is done again and is the
 * present one."
 */
public final class TermsRedoTest {
    private static final Due due = new Due();

    public static void main(String[] args) {
        firstAndLastOfThem();
        onlyThoseBehindAtOnce();
        isThePresentOne();
        due.end();
    }

    /** Terms: "in the order in which they came", also when they were done again in another one. */
    private static void firstAndLastOfThem() {
        Play x = Play.withPersons(1, 1);
        for (int v = 1; v <= 9; v++) {
            x.enter(0, 0, v);
            x.undo(0);
        }
        for (int k : new int[] {8, 0, 4, 8, 0}) {
            due.same("redo(0, " + k + ")", x.redo(0, k), k);
            due.same("at(0, 0)", x.at(0, 0), k + 1);
            x.undo(0);
        }
        due.same("redo(0, 9)", x.redo(0, 9), -1);
        due.same("redo(0, -1)", x.redo(0, -1), -1);
        due.same("at(0, 0)", x.at(0, 0), 0);
    }

    private static void onlyThoseBehindAtOnce() {
        Play x = Play.withPersons(1, 1);
        x.enter(0, 0, 1);
        x.enter(0, 0, 2);
        x.enter(0, 0, 3);
        x.undo(0);
        x.undo(0);
        x.undo(0);
        due.same("redo(0, 1) at the root", x.redo(0, 1), -1);
        due.same("redo(0, 0)", x.redo(0, 0), 0);
        due.same("redo(0, 1) at row 0", x.redo(0, 1), -1);
        due.same("redo(0, 0)", x.redo(0, 0), 1);
        due.same("redo(0, 0)", x.redo(0, 0), 2);
        due.same("redo(0, 0) at the last row", x.redo(0, 0), -1);
    }

    private static void isThePresentOne() {
        Play x = Play.withPersons(1, 1);
        x.enter(0, 0, 1);
        x.undo(0);
        x.enter(0, 0, 2);
        x.undo(0);
        due.same("redo(0, 0)", x.redo(0, 0), 0);
        due.same("branches(0) of row 0", x.branches(0), 0);
        due.same("a new row behind it", x.enter(0, 0, 3), 2);
        due.same("undo(0)", x.undo(0), 2);
        due.same("at(0, 0)", x.at(0, 0), 1);
        due.same("branches(0) of row 0", x.branches(0), 1);
        due.same("rows(), a redo makes none", x.rows(), 3);
    }
}
