/**
 * Terms: "A ROW is one entry or mark: a place, what is told there (v for an entry; 10 + v for a mark that is put, 20 + v
 * for one that is taken away), what was there before."
 */
public final class TermsRowTest {
    private static final Due due = new Due();

    public static void main(String[] args) {
        everyEntryOverEveryOther();
        everyMark();
        due.end();
    }

    /** What was there before is 0 to 9, as what is told is. */
    private static void everyEntryOverEveryOther() {
        for (int before = 0; before <= 9; before++) {
            for (int v = 0; v <= 9; v++) {
                if (v != before) {
                    entryOver(before, v);
                }
            }
        }
    }

    private static void entryOver(int before, int v) {
        Play x = Play.withPersons(3, 1);
        x.mark(0, 2, 9, true);
        x.enter(0, 2, before);
        String old = x.saved(0);
        int row = x.enter(0, 2, v);
        String now = x.saved(0);
        due.same("text", now, ".." + (v == 0 ? "." : "" + v) + "(9)");
        due.same("undo of " + v + " over " + before, x.undo(0), row);
        due.same("text", x.saved(0), old);
        due.same("redo of " + v + " over " + before, x.redo(0, 0), row);
        due.same("text", x.saved(0), now);
    }

    private static void everyMark() {
        for (int v = 1; v <= 9; v++) {
            Play x = Play.withPersons(3, 1);
            x.enter(0, 0, v);
            String without = x.saved(0);
            due.same("put", x.mark(0, 0, v, true), 1);
            String with = x.saved(0);
            due.same("text", with, v + "(" + v + ")..");
            due.same("taken", x.mark(0, 0, v, false), 2);
            due.same("text", x.saved(0), without);
            due.same("undo of taking " + v, x.undo(0), 2);
            due.same("text", x.saved(0), with);
            due.same("undo of putting " + v, x.undo(0), 1);
            due.same("text", x.saved(0), without);
            due.same("redo of putting " + v, x.redo(0, 0), 1);
            due.same("text", x.saved(0), with);
            due.same("redo of taking " + v, x.redo(0, 0), 2);
            due.same("text", x.saved(0), without);
        }
    }
}
