/**
 * Terms: "Of each: at each place an ENTRY 0 to 9 (0: none, as at first) and MARKS, any of the numbers 1 to 9 (none at
 * first); a TREE of ROWS."
 */
public final class TermsEntriesTest {
    private static final Due due = new Due();

    public static void main(String[] args) {
        noneAtFirst();
        entriesZeroToNine();
        marksOneToNine();
        anyOfTheNumbers();
        ofEachPerson();
        due.end();
    }

    /** Terms: "(0: none, as at first)" and "(none at first)". */
    private static void noneAtFirst() {
        Play x = Play.withPersons(81, 1);
        for (int place = 0; place < 81; place++) {
            due.same("at(0, " + place + ") at first", x.at(0, place), 0);
            due.same("marks(0, " + place + ") at first", x.marks(0, place), 0);
        }
        due.same("branches(0) at first", x.branches(0), 0);
        due.same("save(0, 0) at first", x.save(0, 0), '.');
    }

    /** Terms: "an ENTRY 0 to 9". */
    private static void entriesZeroToNine() {
        for (int v = 1; v <= 9; v++) {
            Play x = Play.start();
            due.same("enter(0, 1, " + v + ")", x.enter(0, 1, v), 5);
            due.same("at(0, 1)", x.at(0, 1), v);
            due.same("enter(0, 1, 0)", x.enter(0, 1, 0), 6);
            due.same("at(0, 1)", x.at(0, 1), 0);
        }
        for (int v : new int[] {-1, 10}) {
            due.doesNothing(Play::start, "enter(0, 1, " + v + ")", x -> x.enter(0, 1, v), -1);
        }
    }

    /** Terms: "MARKS, any of the numbers 1 to 9". */
    private static void marksOneToNine() {
        for (int v = 1; v <= 9; v++) {
            Play x = Play.start();
            due.same("mark(0, 2, " + v + ", true)", x.mark(0, 2, v, true), 5);
            due.same("marks(0, 2)", x.marks(0, 2), 1 << v);
            due.same("mark(0, 2, " + v + ", false)", x.mark(0, 2, v, false), 6);
            due.same("marks(0, 2)", x.marks(0, 2), 0);
        }
        for (int v : new int[] {0, 10}) {
            due.doesNothing(Play::start, "mark(0, 2, " + v + ", true)", x -> x.mark(0, 2, v, true), -1);
            due.doesNothing(Play::start, "mark(0, 2, " + v + ", false)", x -> x.mark(0, 2, v, false), -1);
        }
    }

    /** Terms: "any of the numbers 1 to 9": none, all, and each set between. */
    private static void anyOfTheNumbers() {
        for (int set = 0; set < 512; set++) {
            Play x = Play.withPersons(2, 1);
            for (int v = 1; v <= 9; v++) {
                if ((set << 1 & 1 << v) != 0) {
                    x.mark(0, 1, v, true);
                }
            }
            due.same("marks(0, 1)", x.marks(0, 1), set << 1);
            due.same("marks(0, 0)", x.marks(0, 0), 0);
        }
    }

    /** Terms: "Of each: at each place". */
    private static void ofEachPerson() {
        Play x = Play.withPersons(3, 8);
        for (int person = 0; person < 8; person++) {
            x.enter(person, person % 3, person + 1);
            x.mark(person, (person + 1) % 3, person + 2, true);
        }
        for (int person = 0; person < 8; person++) {
            for (int place = 0; place < 3; place++) {
                due.same("at", x.at(person, place), place == person % 3 ? person + 1 : 0);
                due.same("marks", x.marks(person, place), place == (person + 1) % 3 ? 1 << person + 2 : 0);
            }
            due.same("undo", x.undo(person), 2 * person + 1);
        }
    }
}
