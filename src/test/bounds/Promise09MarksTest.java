/** Promise 9: "The marks there, v as bit v; -1 when there is no such one." */
public final class Promise09MarksTest {
    private static final Due due = new Due();

    public static void main(String[] args) {
        leastAndGreatestMark();
        noSuchPerson();
        noSuchPlace();
        due.end();
    }

    /** Promise 9: "v as bit v": 1 is 2, 9 is 512, none is 0, all are 1,022. */
    private static void leastAndGreatestMark() {
        Play x = Play.withPersons(81, 2);
        for (int place : new int[] {0, 80}) {
            due.same("marks(1, " + place + ")", x.marks(1, place), 0);
            x.mark(1, place, 1, true);
            due.same("marks(1, " + place + ")", x.marks(1, place), 2);
            x.mark(1, place, 9, true);
            due.same("marks(1, " + place + ")", x.marks(1, place), 514);
            x.mark(1, place, 1, false);
            due.same("marks(1, " + place + ")", x.marks(1, place), 512);
            for (int v = 1; v < 9; v++) {
                x.mark(1, place, v, true);
            }
            due.same("marks(1, " + place + ")", x.marks(1, place), 1022);
            due.same("marks(0, " + place + ")", x.marks(0, place), 0);
        }
        due.same("marks(1, 1)", x.marks(1, 1), 0);
        due.same("marks(1, 79)", x.marks(1, 79), 0);
    }

    /** Promise 9: "-1 when there is no such one" (person). */
    private static void noSuchPerson() {
        due.same("marks(0, 1)", Play.start().marks(0, 1), 16);
        due.same("marks(1, 1)", Play.start().marks(1, 1), 0);
        for (int person : Play.NOT_PERSONS) {
            due.doesNothing(Play::start, "marks(" + person + ", 1)", x -> x.marks(person, 1), -1);
        }
        due.same("marks(0, 0) without persons", new Play(1).marks(0, 0), -1);
    }

    /** Promise 9: "-1 when there is no such one" (place). */
    private static void noSuchPlace() {
        due.same("marks(0, 0)", Play.start().marks(0, 0), 0);
        due.same("marks(0, 2)", Play.start().marks(0, 2), 0);
        for (int place : Play.NOT_PLACES) {
            due.doesNothing(Play::start, "marks(0, " + place + ")", x -> x.marks(0, place), -1);
        }
        due.same("marks(2, 3), neither", Play.start().marks(2, 3), -1);
    }
}
