/** Promise 7: "How many rows are behind the present one, at once; -1 when there is no such person." */
public final class Promise07BranchesTest {
    private static final Due due = new Due();

    public static void main(String[] args) {
        howMany();
        atOnce();
        noSuchPerson();
        fullRoom();
        due.end();
    }

    private static void howMany() {
        Play x = Play.withPersons(1, 1);
        for (int n = 0; n < 150; n++) {
            due.same("branches(0)", x.branches(0), n);
            x.enter(0, 0, 1 + n % 9);
            x.undo(0);
        }
        due.same("branches(0)", x.branches(0), 150);
        x.redo(0, 77);
        due.same("branches(0) of a row without any", x.branches(0), 0);
        x.undo(0);
        due.same("branches(0), a redo makes none", x.branches(0), 150);
    }

    /** Promise 7: "behind the present one, at once". */
    private static void atOnce() {
        Play x = Play.withPersons(1, 2);
        for (int v = 1; v <= 9; v++) {
            x.enter(0, 0, v);
        }
        for (int v = 9; v >= 1; v--) {
            due.same("branches(0)", x.branches(0), v == 9 ? 0 : 1);
            x.undo(0);
        }
        due.same("branches(0), one and eight behind it", x.branches(0), 1);
        due.same("branches(1), none of another's", x.branches(1), 0);
    }

    /** Promise 7: "-1 when there is no such person". */
    private static void noSuchPerson() {
        due.same("branches(0)", Play.start().branches(0), 1);
        due.same("branches(1)", Play.start().branches(1), 0);
        for (int person : Play.NOT_PERSONS) {
            due.doesNothing(Play::start, "branches(" + person + ")", x -> x.branches(person), -1);
        }
        due.same("branches(0) without persons", new Play(1).branches(0), -1);
        Play x = Play.withPersons(1, 8);
        due.same("branches(7) of eight", x.branches(7), 0);
        due.same("branches(8) of eight", x.branches(8), -1);
    }

    private static void fullRoom() {
        Play x = Play.withRows(600);
        due.same("branches(5) at row 599", x.branches(5), 0);
        x.undo(5);
        due.same("branches(5) at row 598", x.branches(5), 1);
        due.same("branches(1) at its root", x.branches(1), 0);
    }
}
