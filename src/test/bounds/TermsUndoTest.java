/**
 * Terms: "UNDO: what was there before the present row's doing is there again; the row that it came behind is the present
 * one."
 */
public final class TermsUndoTest {
    private static final Due due = new Due();

    public static void main(String[] args) {
        wholeWayBack();
        longestWayBack();
        theRowThatItCameBehind();
        due.end();
    }

    private static void wholeWayBack() {
        Play x = Play.withPersons(2, 1);
        String[] texts = new String[7];
        texts[0] = x.saved(0);
        x.mark(0, 1, 9, true);
        texts[1] = x.saved(0);
        x.enter(0, 1, 9);
        texts[2] = x.saved(0);
        x.mark(0, 1, 9, false);
        texts[3] = x.saved(0);
        x.enter(0, 1, 1);
        texts[4] = x.saved(0);
        x.enter(0, 0, 1);
        texts[5] = x.saved(0);
        x.enter(0, 1, 0);
        texts[6] = x.saved(0);
        for (int row = 5; row >= 0; row--) {
            due.same("saved(0)", x.saved(0), texts[row + 1]);
            due.same("undo(0)", x.undo(0), row);
            due.same("saved(0)", x.saved(0), texts[row]);
        }
        due.same("undo(0) at the root", x.undo(0), -1);
        due.same("saved(0)", x.saved(0), "..");
    }

    private static void longestWayBack() {
        Play x = Play.withPersons(1, 1);
        for (int row = 0; row < 255; row++) {
            x.enter(0, 0, 1 + row % 9);
        }
        for (int row = 254; row >= 0; row--) {
            due.same("undo(0)", x.undo(0), row);
        }
        due.same("calls", x.calls(), 511);
        due.same("undo(0) at the root", x.undo(0), -1);
    }

    /** Not the row before it in number, and not the one that was the present one last. */
    private static void theRowThatItCameBehind() {
        Play x = Play.withPersons(2, 2);
        x.enter(0, 0, 1);
        x.enter(0, 0, 2);
        x.undo(0);
        x.enter(1, 0, 7);
        x.enter(0, 0, 3);
        due.same("undo(0)", x.undo(0), 3);
        due.same("at(0, 0), as row 0 left it", x.at(0, 0), 1);
        due.same("undo(0)", x.undo(0), 0);
        due.same("undo(0)", x.undo(0), -1);
        due.same("undo(1)", x.undo(1), 2);
        due.same("undo(1)", x.undo(1), -1);
    }
}
