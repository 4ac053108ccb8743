/**
 * Promise 17: "Byte i of a person's state as a text: of each place, in order, its entry as a digit, or a point (46)
 * without one, then its marks, rising, between ( and ), if there are some; -1 when there is none such."
 */
public final class Promise17SaveTest {
    private static final Due due = new Due();

    public static void main(String[] args) {
        entryOrPoint();
        marksIfThereAreSome();
        everySetOfMarks();
        firstAndLastByte();
        longText();
        noSuchPerson();
        due.end();
    }

    /** Promise 17: "its entry as a digit, or a point (46) without one". */
    private static void entryOrPoint() {
        Play x = Play.withPersons(2, 1);
        due.same("save(0, 0)", x.save(0, 0), 46);
        due.same("save(0, 1)", x.save(0, 1), 46);
        for (int v = 1; v <= 9; v++) {
            x.enter(0, 1, v);
            due.same("save(0, 1)", x.save(0, 1), 48 + v);
            due.same("save(0, 0)", x.save(0, 0), 46);
            due.same("save(0, 2)", x.save(0, 2), -1);
        }
        x.enter(0, 1, 0);
        due.same("save(0, 1), taken away", x.save(0, 1), 46);
    }

    /** Promise 17: "between ( and ), if there are some": none, one, and none again. */
    private static void marksIfThereAreSome() {
        Play x = Play.withPersons(1, 1);
        due.same("save(0, 1)", x.save(0, 1), -1);
        x.mark(0, 0, 1, true);
        due.same("save(0, 1)", x.save(0, 1), 40);
        due.same("save(0, 2)", x.save(0, 2), 49);
        due.same("save(0, 3)", x.save(0, 3), 41);
        due.same("save(0, 4)", x.save(0, 4), -1);
        x.mark(0, 0, 1, false);
        due.same("save(0, 0)", x.save(0, 0), 46);
        due.same("save(0, 1)", x.save(0, 1), -1);
    }

    /** Promise 17: "then its marks, rising", put in falling order here. */
    private static void everySetOfMarks() {
        for (int set = 0; set < 512; set++) {
            Play x = Play.withPersons(2, 1);
            StringBuilder rising = new StringBuilder();
            for (int v = 9; v >= 1; v--) {
                if ((set & 1 << v - 1) != 0) {
                    x.mark(0, 0, v, true);
                    rising.insert(0, v);
                }
            }
            due.same("saved(0)", x.saved(0), "." + (set == 0 ? "" : "(" + rising + ")") + ".");
        }
    }

    /** Promise 17: "-1 when there is none such" (byte). */
    private static void firstAndLastByte() {
        String text = "5.(4).";
        for (int i = 0; i < text.length(); i++) {
            due.same("save(0, " + i + ")", Play.start().save(0, i), text.charAt(i));
        }
        for (int i : new int[] {-1, 6, 7, 1000, Integer.MIN_VALUE, Integer.MAX_VALUE}) {
            due.doesNothing(Play::start, "save(0, " + i + ")", x -> x.save(0, i), -1);
        }
    }

    private static void longText() {
        Play x = Play.withPersons(81, 1);
        for (int i = 0; i < 405; i++) {
            x.mark(0, i % 81, 9 - i / 81, true);
        }
        x.enter(0, 80, 1);
        String place = ".(56789)";
        for (int i = 0; i < 8; i++) {
            due.same("save(0, " + i + ")", x.save(0, i), place.charAt(i));
            due.same("save(0, " + (632 + i) + ")", x.save(0, 632 + i), place.charAt(i));
        }
        due.same("save(0, 640)", x.save(0, 640), '1');
        due.same("save(0, 647)", x.save(0, 647), ')');
        due.same("save(0, 648)", x.save(0, 648), -1);
    }

    /** Promise 17: "-1 when there is none such" (person). */
    private static void noSuchPerson() {
        due.same("save(0, 0)", Play.start().save(0, 0), '5');
        due.same("save(1, 0)", Play.start().save(1, 0), '1');
        for (int person : Play.NOT_PERSONS) {
            due.doesNothing(Play::start, "save(" + person + ", 0)", x -> x.save(person, 0), -1);
        }
        due.same("save(0, 0) without persons", new Play(1).save(0, 0), -1);
        due.same("save(-1, -1), neither", Play.start().save(-1, -1), -1);
    }
}
