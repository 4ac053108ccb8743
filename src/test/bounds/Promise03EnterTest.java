/**
 * Promise 3: "A person enters v at a place: the row; -1, doing nothing, when there is no such person or place, v is not 0
 * to 9, it is there already, or there are 600 rows."
 */
public final class Promise03EnterTest {
    private static final Due due = new Due();

    public static void main(String[] args) {
        noSuchPerson();
        noSuchPlace();
        notZeroToNine();
        thereAlready();
        sixHundredRows();
        severalAtOnce();
        due.end();
    }

    /** Promise 3: "-1, doing nothing, when there is no such person". */
    private static void noSuchPerson() {
        due.same("enter(0, 1, 7)", Play.start().enter(0, 1, 7), 5);
        due.same("enter(1, 1, 7)", Play.start().enter(1, 1, 7), 5);
        for (int person : Play.NOT_PERSONS) {
            due.doesNothing(Play::start, "enter(" + person + ", 1, 7)", x -> x.enter(person, 1, 7), -1);
        }
        due.doesNothing(() -> new Play(3), "enter(0, 1, 7) without persons", x -> x.enter(0, 1, 7), -1);
    }

    /** Promise 3: "no such person or place". */
    private static void noSuchPlace() {
        due.same("enter(0, 0, 7)", Play.start().enter(0, 0, 7), 5);
        due.same("enter(0, 2, 7)", Play.start().enter(0, 2, 7), 5);
        for (int place : Play.NOT_PLACES) {
            due.doesNothing(Play::start, "enter(0, " + place + ", 7)", x -> x.enter(0, place, 7), -1);
        }
    }

    /** Promise 3: "v is not 0 to 9". */
    private static void notZeroToNine() {
        for (int v = 0; v <= 9; v++) {
            Play x = Play.start();
            due.same("enter(0, 0, " + v + ") over 5", x.enter(0, 0, v), v == 5 ? -1 : 5);
            due.same("at(0, 0)", x.at(0, 0), v);
        }
        for (int v : new int[] {-1, 10, 11, 14, 24, 46, 57, Integer.MIN_VALUE, Integer.MAX_VALUE}) {
            due.doesNothing(Play::start, "enter(0, 1, " + v + ")", x -> x.enter(0, 1, v), -1);
        }
    }

    /** Promise 3: "it is there already": none, too, where there is none. */
    private static void thereAlready() {
        due.doesNothing(Play::start, "enter(0, 0, 5) again", x -> x.enter(0, 0, 5), -1);
        due.doesNothing(Play::start, "enter(0, 1, 0) without entry", x -> x.enter(0, 1, 0), -1);
        due.doesNothing(Play::start, "enter(1, 0, 1) after a help", x -> x.enter(1, 0, 1), -1);
        due.same("enter(0, 0, 4) over 5", Play.start().enter(0, 0, 4), 5);
        due.same("enter(0, 0, 6) over 5", Play.start().enter(0, 0, 6), 5);
        due.same("enter(0, 1, 4) where the mark 4 is", Play.start().enter(0, 1, 4), 5);
        Play x = Play.start();
        due.same("enter(1, 0, 5), there for another person", x.enter(1, 0, 5), 5);
        due.same("undo(1)", x.undo(1), 5);
        due.same("enter(1, 0, 5), undone before", x.enter(1, 0, 5), 6);
        due.same("enter(1, 0, 5) again", x.enter(1, 0, 5), -1);
    }

    private static Play full() {
        return Play.withRows(600);
    }

    /** Promise 3: "or there are 600 rows". */
    private static void sixHundredRows() {
        Play x = Play.withRows(598);
        due.same("enter(0, 1, 3) with 598 rows", x.enter(0, 1, 3), 598);
        due.same("enter(5, 1, 3) with 599 rows", x.enter(5, 1, 3), 599);
        due.same("enter(0, 1, 4) with 600 rows", x.enter(0, 1, 4), -1);
        due.same("at(0, 1)", x.at(0, 1), 3);
        for (int person = 0; person < 6; person++) {
            int who = person;
            due.doesNothing(Promise03EnterTest::full, "enter(" + who + ", 1, 3) with 600 rows", y -> y.enter(who, 1, 3), -1);
        }
        due.doesNothing(Promise03EnterTest::full, "enter(0, 0, 0) with 600 rows", y -> y.enter(0, 0, 0), -1);
        due.doesNothing(Promise03EnterTest::fullAndUndone, "enter(5, 0, 3) after an undo", y -> y.enter(5, 0, 3), -1);
    }

    private static Play fullAndUndone() {
        Play x = full();
        x.undo(5);
        return x;
    }

    private static void severalAtOnce() {
        due.doesNothing(Play::start, "enter(2, 3, 10)", x -> x.enter(2, 3, 10), -1);
        due.doesNothing(Promise03EnterTest::full, "enter(6, -1, -1) with 600 rows", x -> x.enter(6, -1, -1), -1);
    }
}
