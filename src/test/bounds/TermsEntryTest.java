/** Terms: "An entry takes away what was at its place, but not marks." */
public final class TermsEntryTest {
    private static final Due due = new Due();

    public static void main(String[] args) {
        entryOverEntry();
        marksStay();
        otherPlacesStay();
        due.end();
    }

    private static void entryOverEntry() {
        Play x = Play.withPersons(1, 1);
        for (int v = 1; v <= 9; v++) {
            x.enter(0, 0, v);
            due.same("saved(0)", x.saved(0), "" + v);
        }
        x.enter(0, 0, 0);
        due.same("saved(0)", x.saved(0), ".");
    }

    /** With no mark, one and all nine. */
    private static void marksStay() {
        for (int n = 0; n <= 9; n++) {
            Play x = Play.withPersons(1, 1);
            for (int v = 1; v <= n; v++) {
                x.mark(0, 0, v, true);
            }
            int bits = x.marks(0, 0);
            due.same("marks(0, 0)", bits, (1 << n + 1) - 2);
            for (int v = 9; v >= 0; v--) {
                x.enter(0, 0, v);
                due.same("at(0, 0)", x.at(0, 0), v);
                due.same("marks(0, 0)", x.marks(0, 0), bits);
            }
        }
    }

    private static void otherPlacesStay() {
        Play x = Play.withPersons(3, 1);
        x.enter(0, 0, 1);
        x.enter(0, 2, 3);
        x.enter(0, 1, 2);
        x.enter(0, 1, 9);
        due.same("saved(0)", x.saved(0), "193");
        x.enter(0, 1, 0);
        due.same("saved(0)", x.saved(0), "1.3");
    }
}
