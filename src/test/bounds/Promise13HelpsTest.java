/** Promise 13: "How many HELPS a person had (undone ones, too); -1 when there is no such person." */
public final class Promise13HelpsTest {
    private static final Due due = new Due();

    public static void main(String[] args) {
        noneAndMany();
        undoneOnes();
        refusedOnes();
        noSuchPerson();
        due.end();
    }

    private static void noneAndMany() {
        Play x = Play.withPersons(81, 8);
        for (int place = 0; place < 81; place++) {
            x.truth(place, 5);
        }
        for (int person = 0; person < 8; person++) {
            due.same("helps(" + person + ") at first", x.helps(person), 0);
        }
        for (int n = 1; n <= 81; n++) {
            x.help(7);
            due.same("helps(7)", x.helps(7), n);
        }
        due.same("helps(6)", x.helps(6), 0);
        due.same("helps(0)", x.helps(0), 0);
    }

    /** Promise 13: "(undone ones, too)"; a redo, an entry and what is joined or loaded are no helps. */
    private static void undoneOnes() {
        Play x = Play.withPersons(1, 2);
        x.truth(0, 5);
        for (int n = 1; n <= 100; n++) {
            due.same("help(0)", x.help(0), 0);
            due.same("helps(0)", x.helps(0), n);
            x.undo(0);
            due.same("helps(0), undone", x.helps(0), n);
        }
        x.redo(0, 0);
        due.same("helps(0), done again", x.helps(0), 100);
        x.undo(0);
        x.enter(0, 0, 5);
        due.same("helps(0), entered without help", x.helps(0), 100);
        due.same("join(0, 1)", x.join(0, 1), 2);
        due.same("helps(2)", x.helps(2), 0);
        due.same("load()", x.load("5"), 3);
        due.same("helps(3)", x.helps(3), 0);
        due.same("helps(0)", x.helps(0), 100);
    }

    /** A help that does nothing is none. */
    private static void refusedOnes() {
        Play x = Play.start();
        due.same("help(1)", x.help(1), -1);
        due.same("helps(1)", x.helps(1), 1);
        x = Play.withRows(599);
        x.help(1);
        x.help(1);
        x.help(0);
        due.same("helps(1) in a full room", x.helps(1), 1);
        due.same("helps(0) in a full room", x.helps(0), 0);
    }

    /** Promise 13: "-1 when there is no such person". */
    private static void noSuchPerson() {
        due.same("helps(0)", Play.start().helps(0), 0);
        due.same("helps(1)", Play.start().helps(1), 1);
        for (int person : Play.NOT_PERSONS) {
            due.doesNothing(Play::start, "helps(" + person + ")", x -> x.helps(person), -1);
        }
        due.same("helps(0) without persons", new Play(1).helps(0), -1);
    }
}
