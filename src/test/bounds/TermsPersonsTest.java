/** Terms: "PERSONS are numbered from 0 on, at most 8." */
public final class TermsPersonsTest {
    private static final Due due = new Due();

    public static void main(String[] args) {
        numberedFromZeroOn();
        numberedWhicheverWayTheyCome();
        theEighthPlays();
        noNinth();
        due.end();
    }

    private static void numberedFromZeroOn() {
        Play x = new Play(3);
        due.same("branches(0) before the first", x.branches(0), -1);
        for (int person = 0; person < 8; person++) {
            due.same("person()", x.person(), person);
            due.same("branches of it", x.branches(person), 0);
            due.same("branches of the next one", x.branches(person + 1), -1);
            due.same("branches(-1)", x.branches(-1), -1);
        }
    }

    private static void numberedWhicheverWayTheyCome() {
        Play x = new Play(1);
        due.same("load()", x.load("4"), 0);
        due.same("person()", x.person(), 1);
        due.same("join(0, 1)", x.join(0, 1), 2);
        due.same("load()", x.load("."), 3);
        due.same("join(3, 2)", x.join(3, 2), 4);
        due.same("person()", x.person(), 5);
        due.same("load() of a wrong text", x.load("x"), -1);
        due.same("join(5, 5)", x.join(5, 5), -1);
        due.same("join(5, 4)", x.join(5, 4), 6);
        due.same("load(), the eighth", x.load("9"), 7);
        due.same("at(7, 0)", x.at(7, 0), 9);
    }

    private static void theEighthPlays() {
        Play x = Play.withPersons(3, 8);
        x.truth(2, 6);
        due.same("enter(7, 0, 1)", x.enter(7, 0, 1), 0);
        due.same("mark(7, 1, 2, true)", x.mark(7, 1, 2, true), 1);
        due.same("help(7)", x.help(7), 2);
        due.same("helps(7)", x.helps(7), 1);
        due.same("wrong(7)", x.wrong(7), 0);
        due.same("timer(7, 1, true)", x.timer(7, 1, true), true);
        due.same("time(7, 3)", x.time(7, 3), 2);
        due.same("saved(7)", x.saved(7), "1.(2)6");
        due.same("undo(7)", x.undo(7), 2);
        due.same("branches(7)", x.branches(7), 1);
        due.same("redo(7, 0)", x.redo(7, 0), 2);
        due.same("saved(0)", x.saved(0), "...");
        due.same("saved(6)", x.saved(6), "...");
    }

    private static Play eight() {
        Play x = Play.withPersons(3, 8);
        x.truth(1, 2);
        x.enter(0, 0, 1);
        x.enter(7, 2, 5);
        return x;
    }

    private static void noNinth() {
        due.doesNothing(TermsPersonsTest::eight, "person() of eight", x -> x.person(), -1);
        due.doesNothing(TermsPersonsTest::eight, "join(0, 7) of eight", x -> x.join(0, 7), -1);
        due.doesNothing(TermsPersonsTest::eight, "load() of eight", x -> x.load("..."), -1001);
        due.doesNothing(TermsPersonsTest::eight, "enter(8, 0, 1)", x -> x.enter(8, 0, 1), -1);
        due.doesNothing(TermsPersonsTest::eight, "mark(8, 0, 1, true)", x -> x.mark(8, 0, 1, true), -1);
        due.doesNothing(TermsPersonsTest::eight, "undo(8)", x -> x.undo(8), -1);
        due.doesNothing(TermsPersonsTest::eight, "redo(8, 0)", x -> x.redo(8, 0), -1);
        due.doesNothing(TermsPersonsTest::eight, "help(8)", x -> x.help(8), -1);
        due.doesNothing(TermsPersonsTest::eight, "timer(8, 1, true)", x -> x.timer(8, 1, true) ? 1 : 0, 0);
    }
}
