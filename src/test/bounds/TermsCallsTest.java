/** What it is: "An object is used for at most 512 calls after it has been made; what later calls answer is free." */
public final class TermsCallsTest {
    private static final Due due = new Due();

    public static void main(String[] args) {
        lastCall();
        laterCalls();
        due.end();
    }

    private static void lastCall() {
        Play x = Play.withPersons(2, 2);
        while (x.calls() < 510) {
            x.enter(0, 0, 1 + x.calls() % 2);
        }
        due.same("rows(), the 511th call", x.rows(), 508);
        due.same("enter(1, 1, 9), the 512th call", x.enter(1, 1, 9), 508);
        due.same("calls", x.calls(), 512);
    }

    /** What they answer is free, but none may throw. */
    private static void laterCalls() {
        Play x = Play.withPersons(2, 2).goBeyond();
        for (int i = 0; i < 3000; i++) {
            x.enter(i % 9, i % 3, i % 11);
            x.mark(i % 9, i % 3, i % 11, i % 2 == 0);
            x.unit(i % 300);
            x.seen();
            x.goOn();
        }
        due.same("many calls were made", x.calls() > 100_000, true);
    }
}
