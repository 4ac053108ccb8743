/** Terms: "Rows are numbered over all persons, from 0 on, as they come, at most 600." */
public final class TermsRowsTest {
    private static final Due due = new Due();

    public static void main(String[] args) {
        fromZeroOnOverAllPersons();
        asTheyComeWhicheverWay();
        theSixHundredthRow();
        noMoreRows();
        due.end();
    }

    /** Terms: "numbered over all persons, from 0 on". */
    private static void fromZeroOnOverAllPersons() {
        Play x = Play.withPersons(1, 8);
        due.same("rows() at first", x.rows(), 0);
        for (int row = 0; row < 64; row++) {
            due.same("enter", x.enter(row % 8, 0, 1 + row / 8), row);
            due.same("rows()", x.rows(), row + 1);
        }
    }

    /** Terms: "as they come": a refused one takes no number, an undone one keeps its own. */
    private static void asTheyComeWhicheverWay() {
        Play x = Play.withPersons(3, 2);
        x.truth(2, 2);
        due.same("enter(1, 0, 1)", x.enter(1, 0, 1), 0);
        due.same("enter(1, 0, 1), refused", x.enter(1, 0, 1), -1);
        due.same("mark(0, 0, 1, true)", x.mark(0, 0, 1, true), 1);
        due.same("undo(0)", x.undo(0), 1);
        due.same("help(0)", x.help(0), 2);
        due.same("rows() with a help", x.rows(), 3);
        due.same("join(0, 1)", x.join(0, 1), 2);
        due.same("undo(2), the latest of two joined rows", x.undo(2), 4);
        due.same("load()", x.load("1(23)."), -7);
        due.same("load()", x.load("1(23).."), 3);
        due.same("undo(3), the latest of three loaded rows", x.undo(3), 7);
        due.same("mark(1, 1, 1, true)", x.mark(1, 1, 1, true), 8);
        due.same("rows()", x.rows(), 9);
    }

    /** Terms: "at most 600": just inside. */
    private static void theSixHundredthRow() {
        due.same("enter with 599 rows", Play.withRows(599).enter(1, 1, 1), 599);
        due.same("mark with 599 rows", Play.withRows(599).mark(1, 1, 1, true), 599);
        Play x = Play.withRows(599);
        due.same("help with 599 rows", x.help(1), 1);
        due.same("undo of it", x.undo(1), 599);
        x = Play.withRows(599);
        due.same("load with 599 rows", x.load(".1."), 6);
        due.same("undo of it", x.undo(6), 599);
        x = Play.withRows(598);
        x.person();
        x.mark(6, 0, 1, true);
        undoAll(x, 1);
        due.same("join with 599 rows", x.join(6, 1), 7);
        due.same("undo of it", x.undo(7), 599);
        due.same("rows()", x.rows(), 600);
    }

    private static void undoAll(Play x, int person) {
        int row = x.undo(person);
        while (row != -1) {
            row = x.undo(person);
        }
    }

    private static Play full() {
        return Play.withRows(600);
    }

    /** Terms: "at most 600": just outside. */
    private static void noMoreRows() {
        due.doesNothing(TermsRowsTest::full, "enter(1, 1, 1) with 600 rows", x -> x.enter(1, 1, 1), -1);
        due.doesNothing(TermsRowsTest::full, "mark(1, 1, 1, true) with 600 rows", x -> x.mark(1, 1, 1, true), -1);
        due.doesNothing(TermsRowsTest::full, "help(1) with 600 rows", x -> x.help(1), -1);
        due.doesNothing(TermsRowsTest::full, "join(0, 1) with 600 rows", x -> x.join(0, 1), -1);
        due.doesNothing(TermsRowsTest::full, "load() of a row with 600 rows", x -> x.load("..1"), -1001);
        due.doesNothing(TermsRowsTest::full, "rows() of 600", x -> x.rows(), 600);
    }
}
