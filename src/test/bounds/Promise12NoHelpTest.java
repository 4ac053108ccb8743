/** Promise 12: "-1, doing nothing, when there is no such person, place, or there are 600 rows." */
public final class Promise12NoHelpTest {
    private static final Due due = new Due();

    public static void main(String[] args) {
        noSuchPerson();
        noSuchPlace();
        sixHundredRows();
        due.end();
    }

    /** Promise 12: "-1, doing nothing, when there is no such person". */
    private static void noSuchPerson() {
        due.same("help(0)", Play.start().help(0), 2);
        Play x = Play.start();
        x.undo(1);
        due.same("help(1)", x.help(1), 0);
        for (int person : Play.NOT_PERSONS) {
            due.doesNothing(Play::start, "help(" + person + ")", y -> y.help(person), -1);
        }
        due.doesNothing(() -> new Play(3), "help(0) without persons", y -> y.help(0), -1);
    }

    private static Play nothingTold() {
        Play x = Play.start();
        x.truth(0, 0);
        x.truth(2, 0);
        return x;
    }

    private static Play allEntered() {
        Play x = Play.start();
        x.enter(0, 2, 8);
        return x;
    }

    /** Promise 12: "-1, doing nothing, when there is no such ... place": nothing told, or all of it entered. */
    private static void noSuchPlace() {
        due.doesNothing(Promise12NoHelpTest::nothingTold, "help(0), nothing told", x -> x.help(0), -1);
        due.doesNothing(Promise12NoHelpTest::nothingTold, "help(1), nothing told", x -> x.help(1), -1);
        due.doesNothing(Promise12NoHelpTest::allEntered, "help(0), all entered, not right", x -> x.help(0), -1);
        due.doesNothing(Play::start, "help(1), all entered, right", x -> x.help(1), -1);
        Play x = nothingTold();
        x.truth(1, 7);
        due.same("help(0), one place told", x.help(0), 1);
        x = allEntered();
        x.undo(0);
        due.same("help(0), one place free", x.help(0), 2);
    }

    private static Play full() {
        return Play.withRows(600);
    }

    private static Play fullByHelp() {
        Play x = Play.withRows(599);
        due.same("help(1) with 599 rows", x.help(1), 1);
        return x;
    }

    /** Promise 12: "or there are 600 rows". */
    private static void sixHundredRows() {
        Play x = Play.withRows(598);
        due.same("help(1) with 598 rows", x.help(1), 1);
        due.same("help(1) with 599 rows", x.help(1), 2);
        due.same("helps(1)", x.helps(1), 2);
        due.same("rows()", x.rows(), 600);
        due.doesNothing(Promise12NoHelpTest::full, "help(0) with 600 rows", y -> y.help(0), -1);
        due.doesNothing(Promise12NoHelpTest::full, "help(5) with 600 rows", y -> y.help(5), -1);
        due.doesNothing(Promise12NoHelpTest::fullByHelp, "help(1) with 600 rows", y -> y.help(1), -1);
    }
}
