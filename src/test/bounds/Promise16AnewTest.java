/** Promise 16: "(Helps and the timer begin anew.)" */
public final class Promise16AnewTest {
    private static final Due due = new Due();

    public static void main(String[] args) {
        helps();
        timer();
        due.end();
    }

    private static void helps() {
        Play x = Play.start();
        x.help(0);
        due.same("join(0, 1)", x.join(0, 1), 2);
        due.same("helps(2)", x.helps(2), 0);
        due.same("helps(0)", x.helps(0), 1);
        due.same("helps(1)", x.helps(1), 1);
        x.enter(2, 0, 0);
        due.same("help(2)", x.help(2), 0);
        due.same("helps(2)", x.helps(2), 1);
        due.same("helps(0)", x.helps(0), 1);
    }

    private static void timer() {
        Play x = Play.start();
        due.same("join(0, 1)", x.join(0, 1), 2);
        due.same("time(2, -1)", x.time(2, -1), -1);
        due.same("time(2, 0), no time was told", x.time(2, 0), 0);
        due.same("time(2, 200), it does not run", x.time(2, 200), 0);
        due.same("timer(2, 0, true)", x.timer(2, 0, true), true);
        due.same("time(2, 200)", x.time(2, 200), 200);
        due.same("time(0, 200)", x.time(0, 200), 100);
        due.same("time(1, 200)", x.time(1, 200), 0);
    }
}
