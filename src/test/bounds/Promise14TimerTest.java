/**
 * Promise 14: "A person's timer is told a time, and whether it runs from then on: true; false, doing nothing, when there
 * is no such person, or the time is below 0 or earlier than the one told before."
 */
public final class Promise14TimerTest {
    private static final Due due = new Due();
    private static final boolean[] BOTH = {false, true};

    public static void main(String[] args) {
        noSuchPerson();
        belowZero();
        earlierThanToldBefore();
        greatestTime();
        refusedTellsNothing();
        due.end();
    }

    /** Promise 14: "false, doing nothing, when there is no such person". */
    private static void noSuchPerson() {
        for (boolean run : BOTH) {
            due.same("timer(0, 200, " + run + ")", Play.start().timer(0, 200, run), true);
            due.same("timer(1, 200, " + run + ")", Play.start().timer(1, 200, run), true);
            for (int person : Play.NOT_PERSONS) {
                due.doesNothing(Play::start, "timer(" + person + ", 200, " + run + ")",
                    x -> x.timer(person, 200, run) ? 1 : 0, 0);
            }
        }
        due.same("timer(0, 0, true) without persons", new Play(1).timer(0, 0, true), false);
    }

    /** Promise 14: "or the time is below 0". */
    private static void belowZero() {
        for (boolean run : BOTH) {
            due.same("timer(0, 0, " + run + ") at first", Play.withPersons(3, 2).timer(0, 0, run), true);
            for (long ms : new long[] {-1, -2, Integer.MIN_VALUE, Long.MIN_VALUE + 1, Long.MIN_VALUE}) {
                due.doesNothing(() -> Play.withPersons(3, 2), "timer(0, " + ms + ", " + run + ") at first",
                    x -> x.timer(0, ms, run) ? 1 : 0, 0);
                due.doesNothing(Play::start, "timer(0, " + ms + ", " + run + ")", x -> x.timer(0, ms, run) ? 1 : 0, 0);
            }
        }
        Play x = Play.withPersons(1, 1);
        x.timer(0, 0, true);
        due.same("timer(0, -1, false) after 0", x.timer(0, -1, false), false);
        due.same("timer(0, 0, true) after 0", x.timer(0, 0, true), true);
        due.same("time(0, 5)", x.time(0, 5), 5);
    }

    /** Promise 14: "or earlier than the one told before". */
    private static void earlierThanToldBefore() {
        for (boolean run : BOTH) {
            due.same("timer(0, 100, " + run + ")", Play.start().timer(0, 100, run), true);
            due.same("timer(0, 101, " + run + ")", Play.start().timer(0, 101, run), true);
            due.same("timer(1, 50, " + run + ")", Play.start().timer(1, 50, run), true);
            for (long ms : new long[] {99, 98, 1, 0}) {
                due.doesNothing(Play::start, "timer(0, " + ms + ", " + run + ")", x -> x.timer(0, ms, run) ? 1 : 0, 0);
            }
            due.doesNothing(Play::start, "timer(1, 49, " + run + ")", x -> x.timer(1, 49, run) ? 1 : 0, 0);
        }
        Play x = Play.start();
        x.time(0, 5000);
        due.same("timer(0, 100, true): what time was asked is not told", x.timer(0, 100, true), true);
        due.same("timer(1, 60, true): the other's time does not count", x.timer(1, 60, true), true);
    }

    private static void greatestTime() {
        Play x = Play.withPersons(1, 1);
        due.same("timer(0, 1, true)", x.timer(0, 1, true), true);
        due.same("timer(0, greatest, true)", x.timer(0, Long.MAX_VALUE, true), true);
        due.same("timer(0, greatest less 1, false)", x.timer(0, Long.MAX_VALUE - 1, false), false);
        due.same("timer(0, least, false)", x.timer(0, Long.MIN_VALUE, false), false);
        due.same("timer(0, greatest, false)", x.timer(0, Long.MAX_VALUE, false), true);
        due.same("time(0, greatest)", x.time(0, Long.MAX_VALUE), Long.MAX_VALUE - 1);
    }

    /** A refused telling is not "the one told before". */
    private static void refusedTellsNothing() {
        Play x = Play.start();
        due.same("timer(0, 98, false)", x.timer(0, 98, false), false);
        due.same("timer(0, 99, false)", x.timer(0, 99, false), false);
        due.same("time(0, 99)", x.time(0, 99), -1);
        due.same("time(0, 130)", x.time(0, 130), 30);
        due.same("timer(1, 40, true)", x.timer(1, 40, true), false);
        due.same("time(1, 130)", x.time(1, 130), 0);
    }
}
