/** Terms: "THE TRUTH tells what is right at some places." */
public final class TermsTruthTest {
    private static final Due due = new Due();

    public static void main(String[] args) {
        someOfThePlaces();
        sameForAllPersons();
        due.end();
    }

    /** None, the first ones, and all. */
    private static void someOfThePlaces() {
        for (int some = 0; some <= 81; some++) {
            Play x = Play.withPersons(81, 1);
            for (int place = 0; place < 81; place++) {
                x.enter(0, place, 8);
            }
            for (int place = 0; place < some; place++) {
                x.truth(place, 9);
            }
            due.same("wrong(0) with " + some + " places told", x.wrong(0), some);
            x.enter(0, 80, 0);
            due.same("help(0) with " + some + " places told", x.help(0), some == 81 ? 80 : -1);
        }
    }

    /** Told once, also for persons who come later. */
    private static void sameForAllPersons() {
        Play x = new Play(2);
        x.truth(1, 4);
        for (int person = 0; person < 8; person++) {
            x.person();
            due.same("help(" + person + ")", x.help(person), 1);
            due.same("at(" + person + ", 1)", x.at(person, 1), 4);
        }
        x.truth(1, 5);
        for (int person = 0; person < 8; person++) {
            due.same("wrong(" + person + ")", x.wrong(person), 1);
        }
    }
}
