/** Promise 2: "A person: the number; -1 when there are 8." */
public final class Promise02PersonTest {
    private static final Due due = new Due();

    public static void main(String[] args) {
        theNumber();
        whenThereAreEight();
        eightByJoinAndLoad();
        due.end();
    }

    private static void theNumber() {
        Play x = new Play(1);
        for (int person = 0; person < 8; person++) {
            due.same("person()", x.person(), person);
        }
        due.same("person(), the ninth", x.person(), -1);
        due.same("person(), once more", x.person(), -1);
        due.same("branches(7)", x.branches(7), 0);
        due.same("branches(8)", x.branches(8), -1);
    }

    private static Play eight() {
        Play x = Play.start();
        for (int person = 2; person < 8; person++) {
            due.same("person()", x.person(), person);
        }
        return x;
    }

    /** Promise 2: "-1 when there are 8": nobody is changed by it. */
    private static void whenThereAreEight() {
        due.doesNothing(Promise02PersonTest::eight, "person() of eight", x -> x.person(), -1);
    }

    private static void eightByJoinAndLoad() {
        Play x = Play.start();
        x.join(0, 1);
        x.load("...");
        x.join(1, 0);
        x.load("1..");
        due.same("person(), the seventh", x.person(), 6);
        due.same("join(0, 6), the eighth", x.join(0, 6), 7);
        due.same("person()", x.person(), -1);
    }
}
