/** Promise 18: "A byte comes behind what is to be read: true; false when it is not 0 to 255, or there are 1,000." */
public final class Promise18UnitTest {
    private static final Due due = new Due();

    public static void main(String[] args) {
        zeroToTwoHundredFiftyFive();
        notZeroToTwoHundredFiftyFive();
        behindWhatIsToBeRead();
        waitsForLoadAlone();
        oneThousand();
        oneThousandAgain();
        due.end();
    }

    private static void zeroToTwoHundredFiftyFive() {
        for (int u = 0; u <= 255; u++) {
            Play x = new Play(1);
            due.same("unit(" + u + ")", x.unit(u), true);
            due.same("load() of " + u, x.load(), u == '.' || u >= '1' && u <= '9' ? 0 : -1);
        }
    }

    private static Play withText() {
        Play x = Play.start();
        x.units("1.2");
        return x;
    }

    /** Promise 18: "false when it is not 0 to 255": and it does not come, neither whole nor its last eight bits. */
    private static void notZeroToTwoHundredFiftyFive() {
        for (int u : new int[] {-1, 256, -210, 256 + '(', 256 + '1', 65536 + '.', Integer.MIN_VALUE, Integer.MAX_VALUE}) {
            due.doesNothing(Play::start, "unit(" + u + ")", x -> x.unit(u) ? 1 : 0, 0);
            due.doesNothing(Promise18UnitTest::withText, "unit(" + u + ") behind a text", x -> x.unit(u) ? 1 : 0, 0);
        }
    }

    /** Promise 18: "A byte comes behind what is to be read". */
    private static void behindWhatIsToBeRead() {
        due.same("load() of 1.2", withText().load(), 2);
        Play x = withText();
        due.same("unit(0)", x.unit(0), true);
        due.same("load(), the fourth byte is wrong", x.load(), -4);
        x = withText();
        due.same("unit('(')", x.unit('('), true);
        due.same("load(), the text ends behind four", x.load(), -5);
        x = withText();
        x.units("(9)");
        due.same("load()", x.load(), 2);
        due.same("saved(2)", x.saved(2), "1.2(9)");
    }

    /** Promise 18: "what is to be read": no call but load takes it away or changes it, whatever comes between the bytes. */
    private static void waitsForLoadAlone() {
        Play x = Play.start();
        String text = "1(28).(9)3";
        for (int i = 0; i < text.length(); i++) {
            due.same("unit(" + (int) text.charAt(i) + ")", x.unit(text.charAt(i)), true);
            due.same("unit(256)", x.unit(256), false);
            x.enter(0, 1, 1 + i % 9);
            x.mark(1, 1, 7, i % 2 == 0);
            x.undo(1);
            x.redo(1, 0);
            x.truth(1, i % 10);
            x.help(1);
            x.timer(0, 200 + i, true);
            if (i == 3) {
                due.same("join(0, 1)", x.join(0, 1), 2);
            }
            if (i == 6) {
                due.same("person()", x.person(), 3);
            }
            due.same("join(0, 0)", x.join(0, 0), -1);
            x.saved(1);
        }
        x.seen();
        due.same("load()", x.load(), 4);
        due.same("saved(4)", x.saved(4), text);
    }

    /** Promise 18: "or there are 1,000". No object has as many within 512 calls: see Play.goBeyond. */
    private static void oneThousand() {
        Play x = Play.withPersons(81, 1).goBeyond();
        for (int n = 1; n <= 1000; n++) {
            due.same("unit(46), number " + n, x.unit(46), true);
        }
        String before = x.seen();
        for (int u : new int[] {46, 0, 255, -1, 256}) {
            due.same("unit(" + u + ") behind 1,000", x.unit(u), false);
        }
        due.same("what is seen after it", x.seen(), before);
        due.same("load()", x.load(), -82);
        due.same("unit(46), what came is gone", x.unit(46), true);
        due.same("load(), the refused ones are not there", x.load(), -2);
    }

    private static void oneThousandAgain() {
        Play x = new Play(1).goBeyond();
        for (int round = 0; round < 3; round++) {
            for (int n = 0; n < 999; n++) {
                x.unit(46);
            }
            due.same("unit(46), the thousandth", x.unit(46), true);
            due.same("unit(46), one more", x.unit(46), false);
            due.same("load()", x.load(), -2);
        }
    }
}
