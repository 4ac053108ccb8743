/**
 * Promise 12: "HELP: the least place without entry of which something is told: what is right is entered there (by a
 * row); the place."
 */
public final class Promise12HelpTest {
    private static final Due due = new Due();

    public static void main(String[] args) {
        firstAndLastPlace();
        everyPlaceInTurn();
        theLeastOne();
        byARow();
        due.end();
    }

    private static void firstAndLastPlace() {
        for (int place : new int[] {0, 40, 80}) {
            for (int v : new int[] {1, 9}) {
                Play x = Play.withPersons(81, 1);
                x.truth(place, v);
                due.same("help(0)", x.help(0), place);
                due.same("at(0, " + place + ")", x.at(0, place), v);
                due.same("rows()", x.rows(), 1);
                due.same("help(0), no place is left", x.help(0), -1);
            }
        }
        Play x = Play.withPersons(1, 1);
        x.truth(0, 4);
        due.same("help(0) of the only place", x.help(0), 0);
        due.same("help(0), no place is left", x.help(0), -1);
    }

    private static void everyPlaceInTurn() {
        Play x = Play.withPersons(81, 1);
        for (int place = 80; place >= 0; place--) {
            x.truth(place, 1 + place % 9);
        }
        for (int place = 0; place < 81; place++) {
            due.same("help(0)", x.help(0), place);
            due.same("at(0, " + place + ")", x.at(0, place), 1 + place % 9);
        }
        due.same("help(0), no place is left", x.help(0), -1);
        due.same("helps(0)", x.helps(0), 81);
        due.same("rows()", x.rows(), 81);
    }

    /** Promise 12: "the least place without entry of which something is told": entries, right or wrong, are left. */
    private static void theLeastOne() {
        Play x = Play.withPersons(5, 1);
        x.truth(0, 1);
        x.truth(1, 2);
        x.truth(3, 4);
        x.truth(4, 5);
        x.enter(0, 0, 1);
        x.enter(0, 1, 9);
        x.mark(0, 3, 9, true);
        due.same("help(0)", x.help(0), 3);
        due.same("saved(0)", x.saved(0), "19.4(9).");
        x.enter(0, 1, 0);
        due.same("help(0), a lesser one is free again", x.help(0), 1);
        due.same("saved(0)", x.saved(0), "12.4(9).");
    }

    /** Promise 12: "(by a row)". */
    private static void byARow() {
        Play x = Play.start();
        due.same("help(0)", x.help(0), 2);
        due.same("rows()", x.rows(), 6);
        due.same("undo(0)", x.undo(0), 5);
        due.same("at(0, 2)", x.at(0, 2), 0);
        due.same("branches(0)", x.branches(0), 2);
        due.same("redo(0, 1)", x.redo(0, 1), 5);
        due.same("at(0, 2)", x.at(0, 2), 9);
    }
}
