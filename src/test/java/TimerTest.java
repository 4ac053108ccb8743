/** Promises 14 and 15: timer and time. */
public final class TimerTest {
    private static final Due due = new Due();

    public static void main(String[] args) {
        noSuchPerson();
        atFirst();
        pauses();
        runsOn();
        earlierTimes();
        sameTimeTwice();
        lookingTellsNothing();
        greatTimes();
        personsAreApart();
        due.end();
    }

    private static void noSuchPerson() {
        PlayStates x = new PlayStates(1);
        x.person();
        int[] none = {-1, 1, 8, Integer.MIN_VALUE, Integer.MAX_VALUE};
        for (int person : none) {
            due.same("timer(" + person + ", 1, true)", x.timer(person, 1, true), false);
            due.same("time(" + person + ", 1)", x.time(person, 1), -1);
        }
    }

    private static void atFirst() {
        PlayStates x = new PlayStates(1);
        x.person();
        due.same("time(0, 0) at first", x.time(0, 0), 0);
        due.same("time(0, 500) at first", x.time(0, 500), 0);
        due.same("time(0, -1) at first", x.time(0, -1), -1);
        due.same("timer(0, -1, true)", x.timer(0, -1, true), false);
        due.same("timer(0, least, true)", x.timer(0, Long.MIN_VALUE, true), false);
        due.same("time(0, 500): a refused telling starts nothing", x.time(0, 500), 0);
        due.same("timer(0, 0, true)", x.timer(0, 0, true), true);
        due.same("time(0, 500)", x.time(0, 500), 500);
    }

    private static void pauses() {
        PlayStates x = new PlayStates(1);
        x.person();
        due.same("timer(0, 10, false)", x.timer(0, 10, false), true);
        due.same("time(0, 20), not running", x.time(0, 20), 0);
        due.same("timer(0, 30, true)", x.timer(0, 30, true), true);
        due.same("time(0, 30)", x.time(0, 30), 0);
        due.same("time(0, 37)", x.time(0, 37), 7);
        due.same("timer(0, 40, false)", x.timer(0, 40, false), true);
        due.same("time(0, 40)", x.time(0, 40), 10);
        due.same("time(0, 90), in a pause", x.time(0, 90), 10);
        due.same("timer(0, 100, false), still in it", x.timer(0, 100, false), true);
        due.same("timer(0, 200, true)", x.timer(0, 200, true), true);
        due.same("time(0, 205)", x.time(0, 205), 15);
    }

    private static void runsOn() {
        PlayStates x = new PlayStates(1);
        x.person();
        x.timer(0, 5, true);
        x.timer(0, 8, true);
        x.timer(0, 20, true);
        due.same("time(0, 20)", x.time(0, 20), 15);
        due.same("time(0, 21)", x.time(0, 21), 16);
        x.timer(0, 25, false);
        due.same("time(0, 1000)", x.time(0, 1000), 20);
    }

    private static void earlierTimes() {
        PlayStates x = new PlayStates(1);
        x.person();
        x.timer(0, 100, true);
        due.same("timer(0, 99, false)", x.timer(0, 99, false), false);
        due.same("timer(0, -1, false)", x.timer(0, -1, false), false);
        due.same("time(0, 99)", x.time(0, 99), -1);
        due.same("time(0, -1)", x.time(0, -1), -1);
        due.same("time(0, 110): a refused telling stops nothing", x.time(0, 110), 10);
        x.timer(0, 110, false);
        due.same("time(0, 109), in a pause", x.time(0, 109), -1);
        due.same("timer(0, 109, true), in a pause", x.timer(0, 109, true), false);
        due.same("time(0, 120)", x.time(0, 120), 10);
    }

    private static void sameTimeTwice() {
        PlayStates x = new PlayStates(1);
        x.person();
        due.same("timer(0, 7, true)", x.timer(0, 7, true), true);
        due.same("timer(0, 7, false)", x.timer(0, 7, false), true);
        due.same("time(0, 7)", x.time(0, 7), 0);
        due.same("time(0, 9)", x.time(0, 9), 0);
        due.same("timer(0, 7, true)", x.timer(0, 7, true), true);
        due.same("time(0, 9)", x.time(0, 9), 2);
    }

    private static void lookingTellsNothing() {
        PlayStates x = new PlayStates(1);
        x.person();
        x.timer(0, 10, true);
        due.same("time(0, 1000)", x.time(0, 1000), 990);
        due.same("time(0, 20), earlier than what was asked", x.time(0, 20), 10);
        due.same("timer(0, 15, true)", x.timer(0, 15, true), true);
        due.same("time(0, 15)", x.time(0, 15), 5);
    }

    private static void greatTimes() {
        PlayStates x = new PlayStates(1);
        x.person();
        x.timer(0, 0, true);
        due.same("time(0, greatest)", x.time(0, Long.MAX_VALUE), Long.MAX_VALUE);
        due.same("timer(0, 5000000000, true)", x.timer(0, 5000000000L, true), true);
        due.same("time(0, 5000000001)", x.time(0, 5000000001L), 5000000001L);
        due.same("timer(0, greatest, true)", x.timer(0, Long.MAX_VALUE, true), true);
        due.same("time(0, greatest)", x.time(0, Long.MAX_VALUE), Long.MAX_VALUE);
        due.same("timer(0, greatest, false)", x.timer(0, Long.MAX_VALUE, false), true);
        due.same("time(0, greatest)", x.time(0, Long.MAX_VALUE), Long.MAX_VALUE);
        due.same("time(0, greatest less 1)", x.time(0, Long.MAX_VALUE - 1), -1);
        due.same("time(0, least)", x.time(0, Long.MIN_VALUE), -1);
    }

    private static void personsAreApart() {
        PlayStates x = new PlayStates(1);
        x.person();
        x.person();
        x.timer(0, 100, true);
        due.same("timer(1, 50, true)", x.timer(1, 50, true), true);
        due.same("time(0, 150)", x.time(0, 150), 50);
        due.same("time(1, 150)", x.time(1, 150), 100);
        x.enter(0, 0, 1);
        int joined = x.join(0, 1);
        due.same("time of a joined person begins anew", x.time(joined, 150), 0);
        due.same("times of a joined person, too", x.timer(joined, 1, true), true);
    }
}
