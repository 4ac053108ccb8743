/**
 * Promise 15: "What the timer counts up to a time (as if it were told it, to run as it does); -1 when there is no such
 * person, or the time may not be told."
 */
public final class Promise15TimeTest {
    private static final Due due = new Due();

    public static void main(String[] args) {
        asIfItWereTold();
        noSuchPerson();
        mayNotBeTold();
        greatestTime();
        due.end();
    }

    /** Promise 15: "(as if it were told it, to run as it does)": it is not told it. */
    private static void asIfItWereTold() {
        for (long ms : new long[] {100, 101, 5000}) {
            due.doesNothing(Play::start, "time(0, " + ms + "), running", x -> x.time(0, ms), ms - 100);
            due.doesNothing(Play::start, "time(1, " + ms + "), not running", x -> x.time(1, ms), 0);
        }
        Play x = Play.withPersons(1, 1);
        due.same("time(0, 0) at first", x.time(0, 0), 0);
        due.same("time(0, 9) at first", x.time(0, 9), 0);
        due.same("timer(0, 3, true), earlier than asked", x.timer(0, 3, true), true);
        due.same("time(0, 3)", x.time(0, 3), 0);
        due.same("time(0, 4)", x.time(0, 4), 1);
        due.same("time(0, 4) again", x.time(0, 4), 1);
    }

    /** Promise 15: "-1 when there is no such person". */
    private static void noSuchPerson() {
        due.same("time(0, 200)", Play.start().time(0, 200), 100);
        due.same("time(1, 200)", Play.start().time(1, 200), 0);
        for (int person : Play.NOT_PERSONS) {
            due.doesNothing(Play::start, "time(" + person + ", 200)", x -> x.time(person, 200), -1);
        }
        due.same("time(0, 0) without persons", new Play(1).time(0, 0), -1);
    }

    /** Promise 15: "or the time may not be told": below 0, or earlier than the one told before. */
    private static void mayNotBeTold() {
        due.same("time(0, 100)", Play.start().time(0, 100), 0);
        due.same("time(1, 50)", Play.start().time(1, 50), 0);
        for (long ms : new long[] {99, 0, -1, Long.MIN_VALUE}) {
            due.doesNothing(Play::start, "time(0, " + ms + ")", x -> x.time(0, ms), -1);
        }
        for (long ms : new long[] {49, 0, -1, Long.MIN_VALUE}) {
            due.doesNothing(Play::start, "time(1, " + ms + ")", x -> x.time(1, ms), -1);
        }
        for (long ms : new long[] {-1, Long.MIN_VALUE}) {
            due.doesNothing(() -> Play.withPersons(3, 2), "time(0, " + ms + ") at first", x -> x.time(0, ms), -1);
        }
    }

    private static void greatestTime() {
        Play x = Play.withPersons(1, 1);
        x.timer(0, 0, true);
        due.same("time(0, greatest)", x.time(0, Long.MAX_VALUE), Long.MAX_VALUE);
        due.same("time(0, above an int)", x.time(0, 1L << 40), 1L << 40);
        x.timer(0, Long.MAX_VALUE - 1, false);
        x.timer(0, Long.MAX_VALUE, true);
        due.same("time(0, greatest)", x.time(0, Long.MAX_VALUE), Long.MAX_VALUE - 1);
        due.same("time(0, greatest less 1)", x.time(0, Long.MAX_VALUE - 1), -1);
    }
}
