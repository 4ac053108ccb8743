/** Terms: "A person's TREE begins with a root; THE PRESENT is the root or a row of theirs, at first the root." */
public final class TermsRootTest {
    private static final Due due = new Due();

    public static void main(String[] args) {
        atFirstTheRoot();
        backAtTheRoot();
        eachPersonHasItsOwnRoot();
        rootsOfJoinedAndLoaded();
        due.end();
    }

    /** Terms: "at first the root". */
    private static void atFirstTheRoot() {
        Play x = Play.withPersons(1, 8);
        for (int person = 0; person < 8; person++) {
            due.same("undo(" + person + ") at first", x.undo(person), -1);
            due.same("redo(" + person + ", 0) at first", x.redo(person, 0), -1);
            due.same("branches(" + person + ") at first", x.branches(person), 0);
        }
    }

    /** Terms: "THE PRESENT is the root or a row of theirs": the first row is just off the root. */
    private static void backAtTheRoot() {
        Play x = Play.withPersons(1, 1);
        x.enter(0, 0, 1);
        due.same("present(0)", x.present(0), 0);
        due.same("undo(0) of the first row", x.undo(0), 0);
        due.same("undo(0) at the root", x.undo(0), -1);
        due.same("branches(0) at the root", x.branches(0), 1);
        due.same("saved(0) at the root", x.saved(0), ".");
        due.same("redo(0, 0) from the root", x.redo(0, 0), 0);
        due.same("present(0)", x.present(0), 0);
    }

    /** Terms: "a row of theirs". */
    private static void eachPersonHasItsOwnRoot() {
        Play x = Play.withPersons(1, 8);
        for (int person = 0; person < 8; person++) {
            for (int n = 0; n <= person; n++) {
                x.enter(person, 0, 1);
                x.undo(person);
            }
        }
        for (int person = 0, row = 0; person < 8; row += person + 1, person++) {
            due.same("branches of root " + person, x.branches(person), person + 1);
            due.same("the first one", x.redo(person, 0), row);
            x.undo(person);
            due.same("the last one", x.redo(person, person), row + person);
            x.undo(person);
            due.same("none behind it", x.redo(person, person + 1), -1);
        }
    }

    private static void rootsOfJoinedAndLoaded() {
        Play x = Play.withPersons(2, 2);
        x.enter(0, 0, 1);
        x.enter(1, 1, 2);
        due.same("join(0, 1)", x.join(0, 1), 2);
        due.same("load()", x.load("34"), 3);
        for (int person = 2; person < 4; person++) {
            due.same("present", x.present(person), 2 * person - 1);
            x.undo(person);
            due.same("undo to the root", x.undo(person), 2 * person - 2);
            due.same("undo at the root", x.undo(person), -1);
            due.same("branches of the root", x.branches(person), 1);
            due.same("saved at the root", x.saved(person), "..");
        }
    }
}
