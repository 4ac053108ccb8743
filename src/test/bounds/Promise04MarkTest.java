/**
 * Promise 4: "A person puts a mark v (1 to 9) at a place, or takes it away: the row; -1, doing nothing, as above, also
 * when it is so already."
 */
public final class Promise04MarkTest {
    private static final Due due = new Due();

    public static void main(String[] args) {
        noSuchPerson();
        noSuchPlace();
        notOneToNine();
        soAlready();
        sixHundredRows();
        due.end();
    }

    /** Promise 4: "-1, doing nothing, as above" (no such person). */
    private static void noSuchPerson() {
        due.same("mark(0, 1, 3, true)", Play.start().mark(0, 1, 3, true), 5);
        due.same("mark(0, 1, 4, false)", Play.start().mark(0, 1, 4, false), 5);
        due.same("mark(1, 1, 3, true)", Play.start().mark(1, 1, 3, true), 5);
        for (int person : Play.NOT_PERSONS) {
            due.doesNothing(Play::start, "mark(" + person + ", 1, 3, true)", x -> x.mark(person, 1, 3, true), -1);
            due.doesNothing(Play::start, "mark(" + person + ", 1, 4, false)", x -> x.mark(person, 1, 4, false), -1);
        }
    }

    /** Promise 4: "-1, doing nothing, as above" (no such place). */
    private static void noSuchPlace() {
        due.same("mark(0, 0, 3, true)", Play.start().mark(0, 0, 3, true), 5);
        due.same("mark(0, 2, 3, true)", Play.start().mark(0, 2, 3, true), 5);
        for (int place : Play.NOT_PLACES) {
            due.doesNothing(Play::start, "mark(0, " + place + ", 3, true)", x -> x.mark(0, place, 3, true), -1);
            due.doesNothing(Play::start, "mark(0, " + place + ", 4, false)", x -> x.mark(0, place, 4, false), -1);
        }
    }

    private static Play allMarks() {
        Play x = Play.start();
        for (int v = 1; v <= 9; v++) {
            x.mark(0, 2, v, true);
        }
        return x;
    }

    /** Promise 4: "a mark v (1 to 9)". */
    private static void notOneToNine() {
        for (int v = 1; v <= 9; v++) {
            Play x = Play.start();
            due.same("mark(0, 2, " + v + ", true)", x.mark(0, 2, v, true), 5);
            due.same("marks(0, 2)", x.marks(0, 2), 1 << v);
            x = allMarks();
            due.same("mark(0, 2, " + v + ", false)", x.mark(0, 2, v, false), 14);
            due.same("marks(0, 2)", x.marks(0, 2), 1022 - (1 << v));
        }
        // 33 and 41 would be 1 and 9 to a shift, 11 and 21 to what a row tells.
        for (int v : new int[] {0, 10, -1, 11, 19, 21, 32, 33, 41, -31, Integer.MIN_VALUE, Integer.MAX_VALUE}) {
            due.doesNothing(Play::start, "mark(0, 2, " + v + ", true)", x -> x.mark(0, 2, v, true), -1);
            due.doesNothing(Promise04MarkTest::allMarks, "mark(0, 2, " + v + ", false)", x -> x.mark(0, 2, v, false), -1);
        }
    }

    /** Promise 4: "also when it is so already". */
    private static void soAlready() {
        due.doesNothing(Play::start, "mark(0, 1, 4, true) again", x -> x.mark(0, 1, 4, true), -1);
        due.doesNothing(Play::start, "mark(0, 1, 3, false), not there", x -> x.mark(0, 1, 3, false), -1);
        due.doesNothing(Play::start, "mark(0, 0, 5, false), an entry only", x -> x.mark(0, 0, 5, false), -1);
        due.doesNothing(Play::start, "mark(0, 2, 2, false), undone", x -> x.mark(0, 2, 2, false), -1);
        Play x = Play.start();
        due.same("mark(0, 0, 5, true), an entry only", x.mark(0, 0, 5, true), 5);
        due.same("mark(0, 0, 5, false)", x.mark(0, 0, 5, false), 6);
        due.same("mark(0, 0, 5, false) again", x.mark(0, 0, 5, false), -1);
        due.same("mark(1, 1, 4, true), there for another person", x.mark(1, 1, 4, true), 7);
        due.same("mark(1, 1, 4, true) again", x.mark(1, 1, 4, true), -1);
        due.same("rows()", x.rows(), 8);
    }

    private static Play full() {
        Play x = Play.withRows(599);
        x.mark(1, 1, 4, true);
        return x;
    }

    /** Promise 4: "-1, doing nothing, as above" (there are 600 rows). */
    private static void sixHundredRows() {
        due.same("mark(1, 1, 4, true) with 599 rows", Play.withRows(599).mark(1, 1, 4, true), 599);
        Play x = Play.withRows(598);
        due.same("mark(1, 1, 4, true) with 598 rows", x.mark(1, 1, 4, true), 598);
        due.same("mark(1, 1, 4, false) with 599 rows", x.mark(1, 1, 4, false), 599);
        due.doesNothing(Promise04MarkTest::full, "mark(1, 1, 5, true) with 600 rows", y -> y.mark(1, 1, 5, true), -1);
        due.doesNothing(Promise04MarkTest::full, "mark(1, 1, 4, false) with 600 rows", y -> y.mark(1, 1, 4, false), -1);
    }
}
