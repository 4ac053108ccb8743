/** Promise 1: "No persons, nothing of THE TRUTH." */
public final class Promise01NothingTest {
    private static final Due due = new Due();

    public static void main(String[] args) {
        noPersons();
        nothingOfTheTruth();
        nothingOfAnotherObject();
        due.end();
    }

    private static void noPersons() {
        Play x = new Play(3);
        due.same("rows()", x.rows(), 0);
        due.same("enter(0, 0, 1)", x.enter(0, 0, 1), -1);
        due.same("mark(0, 0, 1, true)", x.mark(0, 0, 1, true), -1);
        due.same("undo(0)", x.undo(0), -1);
        due.same("redo(0, 0)", x.redo(0, 0), -1);
        due.same("branches(0)", x.branches(0), -1);
        due.same("at(0, 0)", x.at(0, 0), -1);
        due.same("marks(0, 0)", x.marks(0, 0), -1);
        due.same("wrong(0)", x.wrong(0), -1);
        due.same("help(0)", x.help(0), -1);
        due.same("helps(0)", x.helps(0), -1);
        due.same("timer(0, 0, true)", x.timer(0, 0, true), false);
        due.same("time(0, 0)", x.time(0, 0), -1);
        due.same("join(0, 1)", x.join(0, 1), -1);
        due.same("save(0, 0)", x.save(0, 0), -1);
        due.same("load()", x.load(), -1);
        due.same("rows()", x.rows(), 0);
        due.same("person(), the first", x.person(), 0);
        due.same("what came before it is not its own", x.seen(), Play.withPersons(3, 1).seen());
    }

    private static void nothingOfTheTruth() {
        Play x = Play.withPersons(81, 1);
        due.same("help(0)", x.help(0), -1);
        for (int place = 0; place < 81; place++) {
            x.enter(0, place, 1 + place % 9);
        }
        due.same("wrong(0) with every place entered", x.wrong(0), 0);
        due.same("truth(80, 1)", x.truth(80, 1), true);
        due.same("wrong(0) with one place told", x.wrong(0), 1);
    }

    /** What another object was told, and the bytes that came to it, are its own. */
    private static void nothingOfAnotherObject() {
        Play other = Play.start();
        other.units("1.2");
        String before = other.seen();
        Play x = new Play(3);
        due.same("rows()", x.rows(), 0);
        due.same("helps(0)", x.helps(0), -1);
        due.same("load(), nothing came", x.load(), -1);
        due.same("person()", x.person(), 0);
        due.same("help(0), nothing is told", x.help(0), -1);
        due.same("undo(0)", x.undo(0), -1);
        due.same("redo(0, 0)", x.redo(0, 0), -1);
        due.same("time(0, 0)", x.time(0, 0), 0);
        due.same("saved(0)", x.saved(0), "...");
        due.same("enter(0, 1, 8)", x.enter(0, 1, 8), 0);
        due.same("truth(1, 9)", x.truth(1, 9), true);
        due.same("timer(0, 70, true)", x.timer(0, 70, true), true);
        x.units("987");
        due.same("what is seen of the other", other.seen(), before);
        due.same("load() of the other", other.load(), 2);
        due.same("saved(2) of the other", other.saved(2), "1.2");
    }
}
