/** Promise 8: "The entry of a person at a place; -1 when there is no such one." */
public final class Promise08AtTest {
    private static final Due due = new Due();

    public static void main(String[] args) {
        leastAndGreatestEntry();
        noSuchPerson();
        noSuchPlace();
        due.end();
    }

    private static void leastAndGreatestEntry() {
        Play x = Play.withPersons(81, 2);
        for (int place : new int[] {0, 80}) {
            due.same("at(1, " + place + ")", x.at(1, place), 0);
            x.enter(1, place, 1);
            due.same("at(1, " + place + ")", x.at(1, place), 1);
            x.enter(1, place, 9);
            due.same("at(1, " + place + ")", x.at(1, place), 9);
            due.same("at(0, " + place + ")", x.at(0, place), 0);
        }
        due.same("at(1, 1)", x.at(1, 1), 0);
        due.same("at(1, 79)", x.at(1, 79), 0);
    }

    /** Promise 8: "-1 when there is no such one" (person). */
    private static void noSuchPerson() {
        due.same("at(0, 0)", Play.start().at(0, 0), 5);
        due.same("at(1, 0)", Play.start().at(1, 0), 1);
        for (int person : Play.NOT_PERSONS) {
            due.doesNothing(Play::start, "at(" + person + ", 0)", x -> x.at(person, 0), -1);
        }
        due.same("at(0, 0) without persons", new Play(1).at(0, 0), -1);
    }

    /** Promise 8: "-1 when there is no such one" (place). */
    private static void noSuchPlace() {
        due.same("at(1, 0)", Play.start().at(1, 0), 1);
        due.same("at(1, 2)", Play.start().at(1, 2), 9);
        for (int place : Play.NOT_PLACES) {
            due.doesNothing(Play::start, "at(1, " + place + ")", x -> x.at(1, place), -1);
        }
        due.same("at(2, 3), neither", Play.start().at(2, 3), -1);
    }
}
