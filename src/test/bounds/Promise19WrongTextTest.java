/**
 * Promise 19: "-1 less the place of the first byte that may not be there (how many there are, when it ends too soon;
 * marks have to rise); -1,001 when there are 8 persons or not room for the rows, and nothing is wrong with the text."
 */
public final class Promise19WrongTextTest {
    private static final Due due = new Due();

    public static void main(String[] args) {
        everyByteAtEveryPlace();
        endsTooSoon();
        oneByteTooMany();
        marksHaveToRise();
        emptyMarks();
        theFirstOfTwo();
        wrongTextsDoNothing();
        eightPersons();
        notRoom();
        wrongTextWithoutRoom();
        due.end();
    }

    /** Promise 19: "the first byte that may not be there": the bytes that may be there, after each beginning. */
    private static void everyByteAtEveryPlace() {
        mayFollow("", ".123456789");
        mayFollow(".", "(.123456789");
        mayFollow("9", "(.123456789");
        mayFollow(".(", "123456789");
        mayFollow(".(1", ")23456789");
        mayFollow(".(4", ")56789");
        mayFollow(".(8", ")9");
        mayFollow(".(9", ")");
        mayFollow(".(123456789", ")");
        mayFollow(".(1)", ".123456789");
        mayFollow("..", "(");
        mayFollow(".5", "(");
        mayFollow(".(1).", "(");
        mayFollow("..(", "123456789");
        mayFollow("..(7", ")89");
        mayFollow("..(7)", "");
    }

    /** In an object of two places; what may follow is told by the answer for it being one place later or right. */
    private static void mayFollow(String beginning, String those) {
        for (int u = 0; u <= 255; u++) {
            Play x = new Play(2);
            x.units(beginning);
            x.unit(u);
            int answer = x.load();
            int atIt = -1 - beginning.length();
            if (those.indexOf(u) < 0) {
                due.same("load() of '" + beginning + "' and " + u, answer, atIt);
            } else {
                due.same("load() of '" + beginning + "' and " + u, answer == atIt - 1 || answer == 0, true);
            }
        }
    }

    /** Promise 19: "(how many there are, when it ends too soon". */
    private static void endsTooSoon() {
        String text = "1(28).(9)3";
        for (int n = 0; n < text.length(); n++) {
            Play x = new Play(3);
            due.same("load() of '" + text.substring(0, n) + "'", x.load(text.substring(0, n)), -1 - n);
            due.same("rows()", x.rows(), 0);
            due.same("person()", x.person(), 0);
        }
        Play x = new Play(3);
        due.same("load() of '" + text + "'", x.load(text), 0);
        due.same("load() of '" + text + "('", x.load(text + "("), -12);
        due.same("load() of '" + text + "(1'", x.load(text + "(1"), -13);
        due.same("load() of '" + text + "(1)'", x.load(text + "(1)"), 1);
        due.same("load() of nothing", x.load(), -1);
        due.same("load() of 80 of 81 places", new Play(81).load(".".repeat(80)), -81);
        due.same("load() of 81 of 81 places", new Play(81).load(".".repeat(81)), 0);
    }

    private static void oneByteTooMany() {
        for (int places : new int[] {1, 2, 81}) {
            for (String more : new String[] {".", "1", ")", "0", " ", "\u0000", "\u00ff"}) {
                Play x = new Play(places);
                due.same("load(), one too many", x.load(".".repeat(places) + more), -1 - places);
                due.same("load(), one too many behind marks", x.load(".".repeat(places) + "(1)" + more), -4 - places);
                due.same("load(), none too many", x.load(".".repeat(places) + "(1)"), 0);
            }
        }
    }

    /** Promise 19: "marks have to rise". */
    private static void marksHaveToRise() {
        for (int a = 1; a <= 9; a++) {
            for (int b = 1; b <= 9; b++) {
                due.same("load() of .(" + a + b + ")", new Play(1).load(".(" + a + b + ")"), b > a ? 0 : -4);
            }
        }
        Play x = new Play(2);
        due.same("load() of .(9).(1), they begin anew", x.load(".(9).(1)"), 0);
        due.same("load() of .(123456789).", x.load(".(123456789)."), 1);
        due.same("load() of .(1234567899).", x.load(".(1234567899)."), -12);
        due.same("load() of .(1234567898).", x.load(".(1234567898)."), -12);
    }

    /** Marks stand between ( and ) "if there are some": none stand so. */
    private static void emptyMarks() {
        due.same("load() of .()", new Play(1).load(".()"), -3);
        due.same("load() of .(1)()", new Play(1).load(".(1)()"), -5);
        due.same("load() of .(0)", new Play(1).load(".(0)"), -3);
        due.same("load() of 0", new Play(1).load("0"), -1);
    }

    private static void theFirstOfTwo() {
        due.same("load() of .xx", new Play(3).load(".xx"), -2);
        due.same("load() of x.x", new Play(3).load("x.x"), -1);
        due.same("load() of x, too short as well", new Play(3).load("x"), -1);
        due.same("load() of .(31)x", new Play(1).load(".(31)x"), -4);
    }

    private static void wrongTextsDoNothing() {
        String[] texts = {"", "x", "1", "12", "123x", "1234", "123(", "1(2)x", "1(21).."};
        int[] places = {0, 0, 1, 2, 3, 3, 4, 4, 3};
        for (int i = 0; i < texts.length; i++) {
            String text = texts[i];
            due.doesNothing(Play::start, "load() of '" + text + "'", x -> x.load(text), -1 - places[i]);
        }
    }

    private static Play withPersons(int n) {
        Play x = Play.start();
        for (int person = 2; person < n; person++) {
            x.person();
        }
        return x;
    }

    /** Promise 19: "-1,001 when there are 8 persons". */
    private static void eightPersons() {
        due.same("load() of seven", withPersons(7).load("1.."), 7);
        due.same("load() of seven, no rows", withPersons(7).load("..."), 7);
        due.doesNothing(() -> withPersons(8), "load() of eight", x -> x.load("1.."), -1001);
        due.doesNothing(() -> withPersons(8), "load() of eight, no rows", x -> x.load("..."), -1001);
    }

    /** Promise 19: "or not room for the rows". */
    private static void notRoom() {
        Play x = Play.withRows(588);
        due.same("load() of 12 rows, room for 12", x.load("1(123456789)2.(1)"), 6);
        due.same("rows()", x.rows(), 600);
        due.same("undo(6)", x.undo(6), 599);
        due.same("load() of no rows in a full room", x.load("..."), 7);
        due.same("rows()", x.rows(), 600);
        String thirteen = "1(123456789)2.(12)";
        due.doesNothing(() -> Play.withRows(588), "load() of 13 rows, room for 12", y -> y.load(thirteen), -1001);
        due.doesNothing(() -> Play.withRows(600), "load() of an entry, no room", y -> y.load("..1"), -1001);
        due.doesNothing(() -> Play.withRows(600), "load() of a mark, no room", y -> y.load("...(1)"), -1001);
        Play z = new Play(81).goBeyond();
        String sixHundred = "1(123456789)".repeat(60);
        due.same("load() of 601 rows", z.load(sixHundred + "1" + ".".repeat(20)), -1001);
        due.same("load() of 810 rows", z.load("1(123456789)".repeat(81)), -1001);
        due.same("load() of 810 rows and a byte too many", z.load("1(123456789)".repeat(81) + "."), -973);
        due.same("rows()", z.rows(), 0);
        due.same("load() of 600 rows", z.load(sixHundred + ".".repeat(21)), 0);
        due.same("rows()", z.rows(), 600);
    }

    /** Promise 19: "and nothing is wrong with the text". */
    private static void wrongTextWithoutRoom() {
        String[] texts = {"", "1.", "1.x", "1..."};
        int[] places = {0, 2, 2, 3};
        for (int i = 0; i < texts.length; i++) {
            String text = texts[i];
            int want = -1 - places[i];
            due.doesNothing(() -> withPersons(8), "load() of '" + text + "' of eight", x -> x.load(text), want);
            due.doesNothing(() -> Play.withRows(600), "load() of '" + text + "', no room", x -> x.load(text), want);
        }
    }
}
