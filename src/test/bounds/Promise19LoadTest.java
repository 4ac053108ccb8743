/**
 * Promise 19: "What came is read as such a text (and is gone): the number of a new person with that state (by rows: of
 * each place in order its entry, if there is one, then its marks, rising, as one branch)."
 */
public final class Promise19LoadTest {
    private static final Due due = new Due();

    public static void main(String[] args) {
        theNumberOfANewPerson();
        isGone();
        entryIfThereIsOne();
        byRowsInOrder();
        everySetOfMarks();
        longTexts();
        beginsAsANewPerson();
        due.end();
    }

    private static void theNumberOfANewPerson() {
        Play x = new Play(2);
        for (int person = 0; person < 8; person++) {
            due.same("load()", x.load(".(9)" + (person + 1)), person);
            due.same("saved", x.saved(person), ".(9)" + (person + 1));
        }
        due.same("load(), the ninth", x.load(".."), -1001);
    }

    /** Promise 19: "(and is gone)": whether it was right, wrong, or there was no room. */
    private static void isGone() {
        Play x = new Play(1);
        due.same("load()", x.load("1"), 0);
        due.same("load() once more", x.load(), -1);
        due.same("load() of marks behind the entry that is gone", x.load("(2)"), -1);
        due.same("load() of a wrong text", x.load("1(21)"), -4);
        due.same("load() once more", x.load(), -1);
        due.same("load() of a text that ends too soon", x.load("1(2"), -4);
        due.same("load() of what would have ended it", x.load(")"), -1);
        due.same("load()", x.load("."), 1);
        due.same("saved(1), nothing of the others", x.saved(1), ".");
        for (int person = 2; person < 8; person++) {
            x.person();
        }
        due.same("load() without room", x.load("1"), -1001);
        due.same("load() once more", x.load(), -1);
        due.same("load() without room", x.load("2"), -1001);
    }

    /** Promise 19: "its entry, if there is one". */
    private static void entryIfThereIsOne() {
        for (int v = 0; v <= 9; v++) {
            Play x = new Play(1);
            due.same("load()", x.load(v == 0 ? "." : "" + v), 0);
            due.same("at(0, 0)", x.at(0, 0), v);
            due.same("rows()", x.rows(), v == 0 ? 0 : 1);
            due.same("undo(0)", x.undo(0), v == 0 ? -1 : 0);
        }
    }

    /** Promise 19: "by rows: of each place in order its entry, if there is one, then its marks, rising, as one branch". */
    private static void byRowsInOrder() {
        Play x = Play.start();
        due.same("load()", x.load("9(19).(5)1"), 2);
        String[] texts = {"...", "9..", "9(1)..", "9(19)..", "9(19).(5).", "9(19).(5)1"};
        due.same("rows()", x.rows(), 10);
        due.same("branches(2)", x.branches(2), 0);
        for (int n = 5; n >= 1; n--) {
            due.same("saved(2)", x.saved(2), texts[n]);
            due.same("undo(2)", x.undo(2), 4 + n);
            due.same("branches(2)", x.branches(2), 1);
        }
        due.same("saved(2)", x.saved(2), texts[0]);
        due.same("undo(2)", x.undo(2), -1);
        due.same("the others", x.saved(0) + " " + x.saved(1), "5.(4). 1.9");
    }

    private static void everySetOfMarks() {
        for (int set = 1; set < 512; set++) {
            StringBuilder text = new StringBuilder(".(");
            for (int v = 1; v <= 9; v++) {
                if ((set & 1 << v - 1) != 0) {
                    text.append(v);
                }
            }
            text.append(')');
            Play x = new Play(1);
            due.same("load() of " + text, x.load(text.toString()), 0);
            due.same("marks(0, 0)", x.marks(0, 0), set << 1);
            due.same("rows()", x.rows(), Integer.bitCount(set));
            due.same("saved(0)", x.saved(0), text.toString());
        }
    }

    /** The longest texts that 512 calls can give, and the longest of all, which needs more: see Play.goBeyond. */
    private static void longTexts() {
        Play x = new Play(81);
        String text = "1(123456789)".repeat(35) + ".".repeat(46);
        due.same("load() of 466 bytes", x.load(text), 0);
        due.same("rows()", x.rows(), 350);
        due.same("save(0, 465)", x.save(0, 465), '.');
        due.same("save(0, 466)", x.save(0, 466), -1);
        Play y = new Play(81).goBeyond();
        text = "1(123456789)".repeat(60) + ".".repeat(21);
        due.same("load() of 600 rows", y.load(text), 0);
        due.same("saved(0)", y.saved(0), text);
        due.same("rows()", y.rows(), 600);
    }

    private static void beginsAsANewPerson() {
        Play x = Play.start();
        due.same("load()", x.load("5.."), 2);
        due.same("helps(2)", x.helps(2), 0);
        due.same("wrong(2)", x.wrong(2), 1);
        due.same("time(2, 0)", x.time(2, 0), 0);
        due.same("time(2, 200)", x.time(2, 200), 0);
        due.same("enter(2, 0, 5), there already", x.enter(2, 0, 5), -1);
    }
}
