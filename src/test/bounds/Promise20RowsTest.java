/** Promise 20: "How many rows there are." */
public final class Promise20RowsTest {
    private static final Due due = new Due();

    public static void main(String[] args) {
        noneAtFirst();
        oneMoreWithEachRow();
        notChanged();
        atMost();
        due.end();
    }

    private static void noneAtFirst() {
        Play x = new Play(1);
        due.same("rows() of a new object", x.rows(), 0);
        x.person();
        due.same("rows(), a root is no row", x.rows(), 0);
    }

    private static void oneMoreWithEachRow() {
        Play x = Play.withPersons(3, 2);
        x.truth(2, 9);
        x.enter(0, 0, 1);
        due.same("rows() after enter", x.rows(), 1);
        x.enter(0, 0, 0);
        due.same("rows() after taking away", x.rows(), 2);
        x.mark(1, 0, 1, true);
        due.same("rows() after mark", x.rows(), 3);
        x.mark(1, 0, 1, false);
        due.same("rows() after mark", x.rows(), 4);
        x.help(1);
        due.same("rows() after help", x.rows(), 5);
        x.join(0, 1);
        due.same("rows() after join, five more", x.rows(), 10);
        x.load("1.(23)");
        due.same("rows() after load() of a text that ends too soon", x.rows(), 10);
        x.load("1.(23).");
        due.same("rows() after load, three more", x.rows(), 13);
    }

    private static void notChanged() {
        Play x = Play.start();
        due.same("rows()", x.rows(), 5);
        due.same("rows() again", x.rows(), 5);
        x.undo(0);
        x.undo(0);
        x.undo(1);
        due.same("rows() after undo", x.rows(), 5);
        x.redo(0, 0);
        due.same("rows() after redo", x.rows(), 5);
        x.enter(0, 0, 5);
        x.mark(0, 1, 4, false);
        x.truth(1, 1);
        x.person();
        due.same("rows() after refused calls", x.rows(), 5);
    }

    /** Terms: "at most 600". */
    private static void atMost() {
        Play x = Play.withRows(599);
        due.same("rows()", x.rows(), 599);
        x.enter(1, 1, 1);
        due.same("rows()", x.rows(), 600);
        x.enter(1, 1, 2);
        x.mark(1, 1, 2, true);
        x.help(1);
        x.join(0, 1);
        x.load("1..");
        due.same("rows() after refused calls", x.rows(), 600);
    }
}
