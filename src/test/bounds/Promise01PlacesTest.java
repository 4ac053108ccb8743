/** Promise 1: "places is held to 1 to 81 (what is below counts as 1, what is above as 81)." */
public final class Promise01PlacesTest {
    private static final Due due = new Due();

    public static void main(String[] args) {
        for (int places = 1; places <= 81; places++) {
            held(places, places);
        }
        below();
        above();
        due.end();
    }

    private static void held(int places, int to) {
        String of = " of PlayStates(" + places + ")";
        Play x = Play.withPersons(places, 1);
        due.same("at(0, -1)" + of, x.at(0, -1), -1);
        due.same("at(0, 0)" + of, x.at(0, 0), 0);
        due.same("at of the last place" + of, x.at(0, to - 1), 0);
        due.same("at behind the last place" + of, x.at(0, to), -1);
        due.same("marks behind the last place" + of, x.marks(0, to), -1);
        due.same("truth behind the last place" + of, x.truth(to, 1), false);
        due.same("truth of the last place" + of, x.truth(to - 1, 1), true);
        due.same("help" + of, x.help(0), to - 1);
        due.same("enter behind the last place" + of, x.enter(0, to, 2), -1);
        due.same("enter of the last place" + of, x.enter(0, to - 1, 2), 1);
        due.same("mark behind the last place" + of, x.mark(0, to, 3, true), -1);
        due.same("mark of the last place" + of, x.mark(0, to - 1, 3, true), 2);
        due.same("the last place's text" + of, x.saved(0), ".".repeat(to - 1) + "2(3)");
        due.same("a text of as many places" + of, x.load(".".repeat(to)), 1);
        due.same("a text of one place more" + of, x.load(".".repeat(to + 1)), -1 - to);
        due.same("a text of one place less" + of, x.load(".".repeat(to - 1)), -to);
    }

    /** Promise 1: "what is below counts as 1". */
    private static void below() {
        for (int places : new int[] {0, -1, -80, -81, -82, Integer.MIN_VALUE + 1, Integer.MIN_VALUE}) {
            held(places, 1);
        }
    }

    /** Promise 1: "what is above as 81". */
    private static void above() {
        for (int places : new int[] {82, 83, 162, 256, 65536, Integer.MAX_VALUE - 1, Integer.MAX_VALUE}) {
            held(places, 81);
        }
    }
}
