/** Terms: "A new row comes behind the present one, as its latest branch, and is the present one then." */
public final class TermsNewRowTest {
    private static final Due due = new Due();

    public static void main(String[] args) {
        behindTheRoot();
        behindARow();
        everyKindOfRow();
        due.end();
    }

    private static void behindTheRoot() {
        Play x = Play.withPersons(1, 1);
        for (int n = 0; n < 60; n++) {
            due.same("enter(0, 0, v)", x.enter(0, 0, 1 + n % 9), n);
            due.same("it is the present one: branches(0)", x.branches(0), 0);
            due.same("it is the present one: undo(0)", x.undo(0), n);
            due.same("branches(0) of the root", x.branches(0), n + 1);
            due.same("the latest one", x.redo(0, n), n);
            due.same("none is later", x.redo(0, 0), -1);
            x.undo(0);
        }
    }

    /** Behind the present row, which may be an old one, and not behind the last row that came. */
    private static void behindARow() {
        Play x = Play.withPersons(3, 2);
        x.enter(0, 0, 1);
        x.enter(0, 1, 2);
        x.enter(1, 0, 9);
        x.enter(0, 2, 3);
        x.undo(0);
        x.undo(0);
        due.same("mark(0, 1, 5, true) behind row 0", x.mark(0, 1, 5, true), 4);
        due.same("branches(0)", x.branches(0), 0);
        due.same("undo(0)", x.undo(0), 4);
        due.same("branches(0) of row 0", x.branches(0), 2);
        due.same("redo(0, 1)", x.redo(0, 1), 4);
        x.undo(0);
        due.same("redo(0, 0)", x.redo(0, 0), 1);
        due.same("branches(0) of row 1", x.branches(0), 1);
        due.same("redo(0, 0)", x.redo(0, 0), 3);
        due.same("saved(0)", x.saved(0), "123");
    }

    private static void everyKindOfRow() {
        Play x = Play.withPersons(2, 1);
        x.truth(1, 6);
        x.mark(0, 0, 1, true);
        int[] rows = new int[4];
        rows[0] = x.enter(0, 0, 1);
        x.undo(0);
        rows[1] = x.mark(0, 0, 1, false);
        x.undo(0);
        rows[2] = x.mark(0, 0, 2, true);
        x.undo(0);
        due.same("help(0)", x.help(0), 1);
        rows[3] = x.present(0);
        x.undo(0);
        due.same("branches(0)", x.branches(0), 4);
        for (int k = 0; k < 4; k++) {
            due.same("row", rows[k], k + 1);
            due.same("redo(0, " + k + ")", x.redo(0, k), k + 1);
            x.undo(0);
        }
    }
}
