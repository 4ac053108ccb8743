/** Terms: "PLACES 0 .. places - 1." */
public final class TermsPlacesTest {
    private static final Due due = new Due();

    public static void main(String[] args) {
        firstAndLastPlace(1);
        firstAndLastPlace(2);
        firstAndLastPlace(81);
        beforeAndBehind();
        due.end();
    }

    private static void firstAndLastPlace(int places) {
        String of = " of " + places + " places";
        for (int place : new int[] {0, places - 1}) {
            Play x = Play.withPersons(places, 1);
            due.same("at, place " + place + of, x.at(0, place), 0);
            due.same("marks, place " + place + of, x.marks(0, place), 0);
            due.same("enter, place " + place + of, x.enter(0, place, 3), 0);
            due.same("mark, place " + place + of, x.mark(0, place, 3, true), 1);
            due.same("truth, place " + place + of, x.truth(place, 4), true);
            due.same("at, place " + place + of, x.at(0, place), 3);
            due.same("marks, place " + place + of, x.marks(0, place), 8);
            due.same("wrong, place " + place + of, x.wrong(0), 1);
        }
        for (int place : new int[] {-1, places}) {
            Play x = Play.withPersons(places, 1);
            due.same("at, place " + place + of, x.at(0, place), -1);
            due.same("marks, place " + place + of, x.marks(0, place), -1);
            due.same("enter, place " + place + of, x.enter(0, place, 3), -1);
            due.same("mark, place " + place + of, x.mark(0, place, 3, true), -1);
            due.same("truth, place " + place + of, x.truth(place, 4), false);
            due.same("rows()" + of, x.rows(), 0);
        }
    }

    private static void beforeAndBehind() {
        for (int place : Play.NOT_PLACES) {
            due.doesNothing(Play::start, "enter(0, " + place + ", 3)", x -> x.enter(0, place, 3), -1);
            due.doesNothing(Play::start, "enter(0, " + place + ", 0)", x -> x.enter(0, place, 0), -1);
            due.doesNothing(Play::start, "mark(0, " + place + ", 3, true)", x -> x.mark(0, place, 3, true), -1);
            due.doesNothing(Play::start, "mark(0, " + place + ", 4, false)", x -> x.mark(0, place, 4, false), -1);
            due.doesNothing(Play::start, "truth(" + place + ", 3)", x -> x.truth(place, 3) ? 1 : 0, 0);
            due.doesNothing(Play::start, "truth(" + place + ", 0)", x -> x.truth(place, 0) ? 1 : 0, 0);
            due.doesNothing(Play::start, "at(0, " + place + ")", x -> x.at(0, place), -1);
            due.doesNothing(Play::start, "marks(0, " + place + ")", x -> x.marks(0, place), -1);
        }
    }
}
