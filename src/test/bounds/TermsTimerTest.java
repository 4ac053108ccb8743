/**
 * Terms: "THE TIMER of a person runs or does not (at first not); it is told times in milliseconds; it counts those
 * between a telling that it runs and the next one (which may say that it runs on, or does not), if that is not earlier
 * than the one before."
 */
public final class TermsTimerTest {
    private static final Due due = new Due();

    public static void main(String[] args) {
        atFirstNot();
        runsOnOrNot();
        notEarlier();
        due.end();
    }

    /** Terms: "runs or does not (at first not)". */
    private static void atFirstNot() {
        Play x = Play.withPersons(1, 2);
        due.same("time(0, 0) at first", x.time(0, 0), 0);
        due.same("time(0, 1000) at first", x.time(0, 1000), 0);
        due.same("timer(0, 1000, true)", x.timer(0, 1000, true), true);
        due.same("time(0, 1000), what was before does not count", x.time(0, 1000), 0);
        due.same("time(0, 1001)", x.time(0, 1001), 1);
        due.same("time(1, 1001), not told to run", x.time(1, 1001), 0);
    }

    /** Terms: "(which may say that it runs on, or does not)". */
    private static void runsOnOrNot() {
        Play x = Play.withPersons(1, 1);
        x.timer(0, 10, true);
        x.timer(0, 13, true);
        due.same("time(0, 13)", x.time(0, 13), 3);
        x.timer(0, 20, false);
        due.same("time(0, 20)", x.time(0, 20), 10);
        due.same("time(0, 21)", x.time(0, 21), 10);
        x.timer(0, 30, false);
        due.same("time(0, 40)", x.time(0, 40), 10);
        x.timer(0, 40, true);
        due.same("time(0, 41)", x.time(0, 41), 11);
    }

    /** Terms: "if that is not earlier than the one before": the same time is not earlier, one less is. */
    private static void notEarlier() {
        Play x = Play.start();
        due.same("timer(0, 100, false), the same time", x.timer(0, 100, false), true);
        due.same("time(0, 100)", x.time(0, 100), 0);
        due.same("time(0, 200), it stopped", x.time(0, 200), 0);
        x = Play.start();
        due.same("timer(0, 101, false)", x.timer(0, 101, false), true);
        due.same("time(0, 200)", x.time(0, 200), 1);
        for (boolean run : new boolean[] {false, true}) {
            due.doesNothing(Play::start, "timer(0, 99, " + run + ")", y -> y.timer(0, 99, run) ? 1 : 0, 0);
            due.doesNothing(Play::start, "timer(1, 49, " + run + ")", y -> y.timer(1, 49, run) ? 1 : 0, 0);
        }
    }
}
