/**
 * Promise 16: "A person joins another one's play: beginning with nothing entered and no marks, the rows from the root to
 * the present one of both are done in the order of their numbers, and become (from the root on, as one branch of new
 * rows, in that order, those that change nothing left out) rows of a new person: the number; -1, doing nothing, when
 * there is no such person, both are one, there are 8, or there is not room for these rows."
 */
public final class Promise16JoinTest {
    private static final Due due = new Due();

    public static void main(String[] args) {
        noRows();
        fromTheRootToThePresentOne();
        inTheOrderOfTheirNumbers();
        thatChangeNothing();
        asOneBranch();
        noSuchPerson();
        bothAreOne();
        thereAreEight();
        justRoom();
        notRoom();
        noRowsInAFullRoom();
        due.end();
    }

    /** Promise 16: "beginning with nothing entered and no marks": both at the root, or one of them. */
    private static void noRows() {
        Play x = Play.withPersons(3, 2);
        due.same("join(0, 1), both at first", x.join(0, 1), 2);
        due.same("rows()", x.rows(), 0);
        due.same("present(2)", x.present(2), -1);
        due.same("saved(2)", x.saved(2), "...");
        x = Play.start();
        x.undo(0);
        x.undo(0);
        x.undo(1);
        x.undo(1);
        due.same("join(1, 0), both back at the root", x.join(1, 0), 2);
        due.same("rows()", x.rows(), 5);
        due.same("branches(2)", x.branches(2), 0);
        x.redo(1, 0);
        due.same("join(0, 1), one back at the root", x.join(0, 1), 3);
        due.same("saved(3)", x.saved(3), "..9");
        due.same("present(3)", x.present(3), 5);
    }

    /** Promise 16: "the rows from the root to the present one of both". */
    private static void fromTheRootToThePresentOne() {
        Play x = Play.start();
        due.same("join(0, 1) without row 2, which is undone", x.join(0, 1), 2);
        due.same("rows(), four more", x.rows(), 9);
        due.same("saved(2)", x.saved(2), "1.(4)9");
        x.redo(0, 0);
        due.same("join(0, 1) with row 2", x.join(0, 1), 3);
        due.same("rows(), five more", x.rows(), 14);
        due.same("saved(3)", x.saved(3), "1.(4)9(2)");
        due.same("those who join keep their state", x.saved(0) + " " + x.saved(1), "5.(4).(2) 1.9");
    }

    /** Promise 16: "done in the order of their numbers", whoever joins whom and whatever was done last. */
    private static void inTheOrderOfTheirNumbers() {
        Play x = Play.withPersons(1, 2);
        for (int v = 1; v <= 8; v++) {
            x.enter(v % 2, 0, v);
        }
        x.undo(1);
        x.redo(1, 0);
        for (int other = 0; other < 2; other++) {
            int joined = x.join(1 - other, other);
            due.same("join", joined, 2 + other);
            for (int v = 8; v >= 1; v--) {
                due.same("at", x.at(joined, 0), v);
                due.same("undo", x.undo(joined), 7 + 8 * other + v);
            }
            due.same("undo at the root", x.undo(joined), -1);
        }
    }

    /** Promise 16: "those that change nothing left out", entries, marks put and marks taken. */
    private static void thatChangeNothing() {
        Play x = Play.withPersons(2, 2);
        for (int person = 0; person < 2; person++) {
            x.enter(person, 0, 5);
        }
        for (int person = 0; person < 2; person++) {
            x.mark(person, 1, 9, true);
        }
        for (int person = 0; person < 2; person++) {
            x.mark(person, 1, 9, false);
        }
        for (int person = 0; person < 2; person++) {
            x.enter(person, 0, 0);
        }
        due.same("join(0, 1)", x.join(0, 1), 2);
        due.same("rows(), half of eight more", x.rows(), 12);
        String[] texts = {"..", "5.", "5.(9)", "5.", ".."};
        for (int row = 11; row >= 8; row--) {
            due.same("saved(2)", x.saved(2), texts[row - 7]);
            due.same("undo(2)", x.undo(2), row);
        }
        due.same("saved(2)", x.saved(2), texts[0]);
        due.same("undo(2)", x.undo(2), -1);
    }

    /** Promise 16: "from the root on, as one branch of new rows". */
    private static void asOneBranch() {
        Play x = Play.start();
        x.join(0, 1);
        due.same("branches(2)", x.branches(2), 0);
        for (int row = 8; row >= 5; row--) {
            due.same("undo(2)", x.undo(2), row);
            due.same("branches(2)", x.branches(2), 1);
        }
        due.same("undo(2)", x.undo(2), -1);
        for (int row = 5; row <= 8; row++) {
            due.same("redo(2, 0)", x.redo(2, 0), row);
        }
        due.same("redo(2, 0)", x.redo(2, 0), -1);
    }

    /** Promise 16: "-1, doing nothing, when there is no such person". */
    private static void noSuchPerson() {
        due.same("join(0, 1)", Play.start().join(0, 1), 2);
        due.same("join(1, 0)", Play.start().join(1, 0), 2);
        for (int person : Play.NOT_PERSONS) {
            due.doesNothing(Play::start, "join(" + person + ", 1)", x -> x.join(person, 1), -1);
            due.doesNothing(Play::start, "join(1, " + person + ")", x -> x.join(1, person), -1);
            due.doesNothing(Play::start, "join of " + person + " and itself", x -> x.join(person, person), -1);
        }
        due.doesNothing(() -> new Play(3), "join(0, 1) without persons", x -> x.join(0, 1), -1);
        due.doesNothing(() -> Play.withPersons(3, 1), "join(0, 1) of one person", x -> x.join(0, 1), -1);
    }

    /** Promise 16: "both are one". */
    private static void bothAreOne() {
        due.doesNothing(Play::start, "join(0, 0)", x -> x.join(0, 0), -1);
        due.doesNothing(Play::start, "join(1, 1)", x -> x.join(1, 1), -1);
    }

    private static Play withPersons(int n) {
        Play x = Play.start();
        for (int person = 2; person < n; person++) {
            x.person();
        }
        return x;
    }

    /** Promise 16: "there are 8". */
    private static void thereAreEight() {
        due.same("join(0, 1) of seven", withPersons(7).join(0, 1), 7);
        due.same("join(6, 5) of seven, no rows", withPersons(7).join(6, 5), 7);
        due.doesNothing(() -> withPersons(8), "join(0, 1) of eight", x -> x.join(0, 1), -1);
        due.doesNothing(() -> withPersons(8), "join(7, 6) of eight, no rows", x -> x.join(7, 6), -1);
    }

    /** 576 rows, then n of person 6, marks at places 0 to 2, then twins of person 1: rows that person 6 has, too. */
    private static Play withSeven(int n, int twins) {
        Play x = Play.withRows(576);
        x.person();
        for (int i = 0; i < n; i++) {
            x.mark(6, i / 9, 1 + i % 9, true);
        }
        for (int i = 0; i < twins; i++) {
            x.mark(1, i / 9, 1 + i % 9, true);
        }
        return x;
    }

    /** Person 0 has 46 rows, row 0 among them, and person 6 has none; a text came that may not change what is joined. */
    private static Play withFirstRow(int n) {
        Play x = Play.withRows(n);
        x.person();
        x.load("1x");
        return x;
    }

    /** Promise 16: "or there is not room for these rows": just room; those left out need none. */
    private static void justRoom() {
        Play x = withSeven(12, 0);
        due.same("rows()", x.rows(), 588);
        due.same("join(6, 1), 12 rows", x.join(6, 1), 7);
        due.same("rows()", x.rows(), 600);
        due.same("saved(7)", x.saved(7), ".(123456789).(123).");
        x = withSeven(8, 8);
        due.same("rows()", x.rows(), 592);
        due.same("join(1, 6), 8 rows and 8 left out", x.join(1, 6), 7);
        due.same("rows()", x.rows(), 600);
        due.same("undo(7)", x.undo(7), 599);
        x = withFirstRow(554);
        due.same("join(0, 6), 46 rows", x.join(0, 6), 7);
        due.same("rows()", x.rows(), 600);
    }

    /** Promise 16: "or there is not room for these rows": one too few, and no row at all. */
    private static void notRoom() {
        due.doesNothing(() -> withSeven(12, 1), "join(6, 1), 12 rows, room for 11", x -> x.join(6, 1), -1);
        due.doesNothing(() -> withSeven(12, 1), "join(1, 6), 12 rows, room for 11", x -> x.join(1, 6), -1);
        due.doesNothing(() -> withSeven(13, 0), "join(6, 1), 13 rows, room for 11", x -> x.join(6, 1), -1);
        due.doesNothing(() -> withFirstRow(555), "join(0, 6), 46 rows, room for 45", x -> x.join(0, 6), -1);
        due.doesNothing(() -> withFirstRow(555), "join(6, 0), 46 rows, room for 45", x -> x.join(6, 0), -1);
        due.doesNothing(() -> withSeven(23, 1), "join(6, 1), 23 rows, no room", x -> x.join(6, 1), -1);
        due.doesNothing(() -> Play.withRows(600), "join(0, 5), 300 rows, no room", x -> x.join(0, 5), -1);
    }

    /** No rows need no room. */
    private static void noRowsInAFullRoom() {
        Play x = Play.withRows(600);
        x.person();
        due.same("join(1, 6) of two roots", x.join(1, 6), 7);
        due.same("saved(7)", x.saved(7), "...");
        due.same("rows()", x.rows(), 600);
    }
}
