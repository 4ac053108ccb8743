/**
 * Promise 10: "What is right at a place becomes v (1 to 9), or is not told (0): true; false when there is no such place,
 * or v is not so."
 */
public final class Promise10TruthTest {
    private static final Due due = new Due();

    public static void main(String[] args) {
        oneToNine();
        notTold();
        noSuchPlace();
        notSo();
        refusedTellsNothing();
        due.end();
    }

    /** Promise 10: "becomes v (1 to 9)". */
    private static void oneToNine() {
        for (int v = 1; v <= 9; v++) {
            Play x = Play.withPersons(3, 1);
            due.same("truth(1, " + v + ")", x.truth(1, v), true);
            due.same("help(0)", x.help(0), 1);
            due.same("at(0, 1)", x.at(0, 1), v);
            due.same("wrong(0)", x.wrong(0), 0);
            due.same("truth(1, another)", x.truth(1, v % 9 + 1), true);
            due.same("wrong(0)", x.wrong(0), 1);
        }
    }

    /** Promise 10: "or is not told (0)". */
    private static void notTold() {
        Play x = Play.start();
        due.same("wrong(0)", x.wrong(0), 1);
        due.same("truth(0, 0)", x.truth(0, 0), true);
        due.same("wrong(0), not told", x.wrong(0), 0);
        due.same("help(0)", x.help(0), 2);
        due.same("truth(2, 0)", x.truth(2, 0), true);
        due.same("truth(2, 0) again", x.truth(2, 0), true);
        x.undo(0);
        due.same("help(0), nothing is told", x.help(0), -1);
        due.same("truth(1, 0), never told", x.truth(1, 0), true);
    }

    /** Promise 10: "false when there is no such place". */
    private static void noSuchPlace() {
        due.same("truth(0, 5)", Play.start().truth(0, 5), true);
        due.same("truth(2, 5)", Play.start().truth(2, 5), true);
        for (int place : Play.NOT_PLACES) {
            due.doesNothing(Play::start, "truth(" + place + ", 5)", x -> x.truth(place, 5) ? 1 : 0, 0);
        }
        Play x = new Play(81);
        due.same("truth(80, 9) without persons", x.truth(80, 9), true);
        due.same("truth(81, 9) without persons", x.truth(81, 9), false);
    }

    /** Promise 10: "or v is not so". */
    private static void notSo() {
        for (int v : new int[] {-1, 10, -9, 11, 255, Integer.MIN_VALUE, Integer.MAX_VALUE}) {
            for (int place = 0; place < 3; place++) {
                int where = place;
                due.doesNothing(Play::start, "truth(" + where + ", " + v + ")", x -> x.truth(where, v) ? 1 : 0, 0);
            }
        }
    }

    /** What was right stays right, and what was not told stays so. */
    private static void refusedTellsNothing() {
        for (int v : new int[] {-1, 10}) {
            Play x = Play.withPersons(2, 1);
            x.truth(0, 6);
            due.same("truth(0, " + v + ")", x.truth(0, v), false);
            due.same("truth(1, " + v + ")", x.truth(1, v), false);
            due.same("help(0)", x.help(0), 0);
            due.same("at(0, 0)", x.at(0, 0), 6);
            due.same("help(0)", x.help(0), -1);
        }
    }
}
