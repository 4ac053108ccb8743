/**
 * Promise 11: "At how many places a person's entry is not what is right (places without entry, or of which nothing is
 * told, do not count); -1 when there is no such person."
 */
public final class Promise11WrongTest {
    private static final Due due = new Due();

    public static void main(String[] args) {
        noneAndAll();
        withoutEntry();
        nothingTold();
        everyEntryAndTruth();
        noSuchPerson();
        due.end();
    }

    private static void noneAndAll() {
        Play x = Play.withPersons(81, 1);
        for (int place = 0; place < 81; place++) {
            x.truth(place, 9);
            due.same("wrong(0)", x.wrong(0), place);
            x.enter(0, place, 8);
            due.same("wrong(0)", x.wrong(0), place + 1);
        }
        for (int place = 0; place < 81; place++) {
            x.enter(0, place, 9);
        }
        due.same("wrong(0), all right", x.wrong(0), 0);
    }

    /** Promise 11: "(places without entry, ... do not count)". */
    private static void withoutEntry() {
        Play x = Play.withPersons(3, 1);
        x.truth(0, 1);
        x.truth(2, 3);
        due.same("wrong(0) without entries", x.wrong(0), 0);
        x.mark(0, 0, 2, true);
        due.same("wrong(0), a mark is no entry", x.wrong(0), 0);
        x.enter(0, 0, 2);
        due.same("wrong(0)", x.wrong(0), 1);
        x.enter(0, 0, 0);
        due.same("wrong(0), taken away", x.wrong(0), 0);
        x.undo(0);
        due.same("wrong(0), there again", x.wrong(0), 1);
    }

    /** Promise 11: "or of which nothing is told, do not count". */
    private static void nothingTold() {
        Play x = Play.withPersons(3, 1);
        x.enter(0, 1, 5);
        due.same("wrong(0), nothing told", x.wrong(0), 0);
        x.truth(1, 6);
        due.same("wrong(0), told", x.wrong(0), 1);
        x.truth(1, 0);
        due.same("wrong(0), not told any more", x.wrong(0), 0);
    }

    private static void everyEntryAndTruth() {
        for (int right = 0; right <= 9; right++) {
            Play x = Play.withPersons(1, 1);
            x.truth(0, right);
            for (int v = 1; v <= 9; v++) {
                x.enter(0, 0, v);
                due.same("wrong(0), " + v + " where " + right + " is right", x.wrong(0), right == 0 || right == v ? 0 : 1);
            }
        }
    }

    /** Promise 11: "-1 when there is no such person". */
    private static void noSuchPerson() {
        due.same("wrong(0)", Play.start().wrong(0), 1);
        due.same("wrong(1)", Play.start().wrong(1), 0);
        for (int person : Play.NOT_PERSONS) {
            due.doesNothing(Play::start, "wrong(" + person + ")", x -> x.wrong(person), -1);
        }
        due.same("wrong(0) without persons", new Play(1).wrong(0), -1);
    }
}
