/** Promise 5: "UNDO: the row that was undone; -1 when there is no such person, or the root is the present one." */
public final class Promise05UndoTest {
    private static final Due due = new Due();

    public static void main(String[] args) {
        noSuchPerson();
        theRoot();
        rootsOfAllKinds();
        fullRoom();
        due.end();
    }

    /** Promise 5: "-1 when there is no such person". */
    private static void noSuchPerson() {
        due.same("undo(0)", Play.start().undo(0), 1);
        due.same("undo(1)", Play.start().undo(1), 4);
        for (int person : Play.NOT_PERSONS) {
            due.doesNothing(Play::start, "undo(" + person + ")", x -> x.undo(person), -1);
        }
        due.doesNothing(() -> new Play(3), "undo(0) without persons", x -> x.undo(0), -1);
    }

    private static Play atTheRoot() {
        Play x = Play.start();
        x.undo(0);
        x.undo(0);
        return x;
    }

    /** Promise 5: "or the root is the present one". */
    private static void theRoot() {
        Play x = Play.start();
        due.same("undo(0)", x.undo(0), 1);
        due.same("undo(0), the first row", x.undo(0), 0);
        due.same("undo(0), the root", x.undo(0), -1);
        due.same("undo(1), another person's", x.undo(1), 4);
        due.doesNothing(Promise05UndoTest::atTheRoot, "undo(0) at the root", y -> y.undo(0), -1);
        due.doesNothing(() -> Play.withPersons(3, 2), "undo(1) at first", y -> y.undo(1), -1);
    }

    private static void rootsOfAllKinds() {
        Play x = Play.withPersons(2, 2);
        due.same("join(0, 1) of nothing", x.join(0, 1), 2);
        due.same("undo(2)", x.undo(2), -1);
        due.same("load() of nothing entered", x.load(".."), 3);
        due.same("undo(3)", x.undo(3), -1);
        due.same("load()", x.load(".4"), 4);
        due.same("undo(4)", x.undo(4), 0);
        due.same("undo(4)", x.undo(4), -1);
        due.same("rows()", x.rows(), 1);
    }

    private static void fullRoom() {
        Play x = Play.withRows(600);
        due.same("undo(5), the last row of a full room", x.undo(5), 599);
        due.same("undo(0)", x.undo(0), 49);
        due.same("undo(1), nothing of its own", x.undo(1), -1);
        due.same("rows()", x.rows(), 600);
    }
}
