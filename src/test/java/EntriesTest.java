/** Promises 1, 2, 3, 4, 8, 9 and 20: places, persons, entries, marks, rows. */
public final class EntriesTest {
    private static final Due due = new Due();

    public static void main(String[] args) {
        newObject();
        placesAreHeld();
        persons();
        entries();
        wrongEntries();
        marksPutAndTaken();
        wrongMarks();
        marksAndEntriesAreApart();
        personsAreApart();
        due.end();
    }

    private static void newObject() {
        PlayStates x = new PlayStates(4);
        due.same("rows() of a new object", x.rows(), 0);
        due.same("at(0, 0) without persons", x.at(0, 0), -1);
        due.same("marks(0, 0) without persons", x.marks(0, 0), -1);
        x.person();
        x.enter(0, 0, 1);
        due.same("wrong(0) without truth", x.wrong(0), 0);
        due.same("help(0) without truth", x.help(0), -1);
    }

    private static void placesAreHeld() {
        int[] told = {Integer.MIN_VALUE, -1, 0, 1, 2, 80, 81, 82, Integer.MAX_VALUE};
        int[] held = {1, 1, 1, 1, 2, 80, 81, 81, 81};
        for (int i = 0; i < told.length; i++) {
            PlayStates x = new PlayStates(told[i]);
            x.person();
            due.same("at, last of places " + told[i], x.at(0, held[i] - 1), 0);
            due.same("at, behind places " + told[i], x.at(0, held[i]), -1);
            due.same("marks, last of places " + told[i], x.marks(0, held[i] - 1), 0);
            due.same("marks, behind places " + told[i], x.marks(0, held[i]), -1);
            due.same("enter, behind places " + told[i], x.enter(0, held[i], 1), -1);
            due.same("mark, behind places " + told[i], x.mark(0, held[i], 1, true), -1);
            due.same("truth, behind places " + told[i], x.truth(held[i], 1), false);
            due.same("enter, last of places " + told[i], x.enter(0, held[i] - 1, 1), 0);
            due.same("mark, last of places " + told[i], x.mark(0, held[i] - 1, 1, true), 1);
            due.same("truth, last of places " + told[i], x.truth(held[i] - 1, 1), true);
            due.same("saved length of places " + told[i], Due.saved(x, 0).length(), held[i] + 3);
        }
    }

    private static void persons() {
        PlayStates x = new PlayStates(2);
        for (int person = 0; person < 8; person++) {
            due.same("at of the person to come", x.at(person, 0), -1);
            due.same("person()", x.person(), person);
            due.same("at of the new person", x.at(person, 0), 0);
        }
        due.same("ninth person()", x.person(), -1);
        due.same("tenth person()", x.person(), -1);
        due.same("at(8, 0)", x.at(8, 0), -1);
        due.same("at(7, 1)", x.at(7, 1), 0);
    }

    private static void entries() {
        PlayStates x = new PlayStates(3);
        x.person();
        due.same("enter(0, 2, 0) without entry", x.enter(0, 2, 0), -1);
        for (int v = 1; v <= 9; v++) {
            due.same("enter(0, 2, v)", x.enter(0, 2, v), v - 1);
            due.same("at(0, 2)", x.at(0, 2), v);
            due.same("enter(0, 2, v) again", x.enter(0, 2, v), -1);
        }
        due.same("at(0, 1)", x.at(0, 1), 0);
        due.same("enter(0, 2, 0)", x.enter(0, 2, 0), 9);
        due.same("at(0, 2) taken away", x.at(0, 2), 0);
        due.same("enter(0, 2, 0) again", x.enter(0, 2, 0), -1);
        due.same("rows()", x.rows(), 10);
    }

    private static void wrongEntries() {
        PlayStates x = new PlayStates(3);
        x.person();
        x.enter(0, 1, 4);
        int[][] calls = {{-1, 0, 1}, {1, 0, 1}, {8, 0, 1}, {0, -1, 1}, {0, 3, 1}, {0, 0, -1}, {0, 0, 10},
            {0, 1, 4}, {Integer.MIN_VALUE, 0, 1}, {Integer.MAX_VALUE, 0, 1}, {0, Integer.MIN_VALUE, 1},
            {0, Integer.MAX_VALUE, 1}, {0, 0, Integer.MIN_VALUE}, {0, 0, Integer.MAX_VALUE}};
        for (int[] c : calls) {
            due.same("enter(" + c[0] + ", " + c[1] + ", " + c[2] + ")", x.enter(c[0], c[1], c[2]), -1);
        }
        int[][] looks = {{-1, 0}, {1, 0}, {8, 0}, {0, -1}, {0, 3}, {Integer.MIN_VALUE, 0}, {Integer.MAX_VALUE, 0},
            {0, Integer.MIN_VALUE}, {0, Integer.MAX_VALUE}};
        for (int[] c : looks) {
            due.same("at(" + c[0] + ", " + c[1] + ")", x.at(c[0], c[1]), -1);
            due.same("marks(" + c[0] + ", " + c[1] + ")", x.marks(c[0], c[1]), -1);
        }
        due.same("rows() after wrong calls", x.rows(), 1);
        due.same("state after wrong calls", Due.saved(x, 0), ".4.");
        due.same("undo(0) after wrong calls", x.undo(0), 0);
    }

    private static void marksPutAndTaken() {
        PlayStates x = new PlayStates(2);
        x.person();
        int bits = 0;
        for (int v = 1; v <= 9; v++) {
            due.same("mark taken that is not there", x.mark(0, 1, v, false), -1);
            due.same("mark put", x.mark(0, 1, v, true), v - 1);
            bits |= 1 << v;
            due.same("marks(0, 1)", x.marks(0, 1), bits);
            due.same("mark put again", x.mark(0, 1, v, true), -1);
        }
        for (int v = 1; v <= 9; v++) {
            due.same("mark taken", x.mark(0, 1, v, false), 8 + v);
            bits &= ~(1 << v);
            due.same("marks(0, 1)", x.marks(0, 1), bits);
            due.same("mark taken again", x.mark(0, 1, v, false), -1);
        }
        due.same("marks(0, 0)", x.marks(0, 0), 0);
        due.same("rows()", x.rows(), 18);
    }

    private static void wrongMarks() {
        PlayStates x = new PlayStates(3);
        x.person();
        x.mark(0, 1, 4, true);
        int[][] calls = {{-1, 0, 1}, {1, 0, 1}, {8, 0, 1}, {0, -1, 1}, {0, 3, 1}, {0, 0, -1}, {0, 0, 0}, {0, 0, 10},
            {0, 0, 32}, {0, 0, 33}, {Integer.MIN_VALUE, 0, 1}, {Integer.MAX_VALUE, 0, 1}, {0, Integer.MIN_VALUE, 1},
            {0, Integer.MAX_VALUE, 1}, {0, 0, Integer.MIN_VALUE}, {0, 0, Integer.MAX_VALUE}};
        for (int[] c : calls) {
            String call = "mark(" + c[0] + ", " + c[1] + ", " + c[2];
            due.same(call + ", true)", x.mark(c[0], c[1], c[2], true), -1);
            due.same(call + ", false)", x.mark(c[0], c[1], c[2], false), -1);
        }
        due.same("rows() after wrong calls", x.rows(), 1);
        due.same("state after wrong calls", Due.saved(x, 0), "..(4).");
    }

    private static void marksAndEntriesAreApart() {
        PlayStates x = new PlayStates(2);
        x.person();
        x.mark(0, 0, 3, true);
        due.same("enter of a marked number", x.enter(0, 0, 3), 1);
        due.same("marks stay", x.marks(0, 0), 8);
        due.same("mark beside an entry", x.mark(0, 0, 5, true), 2);
        due.same("entry stays", x.at(0, 0), 3);
        due.same("enter(0, 0, 0)", x.enter(0, 0, 0), 3);
        due.same("marks stay", x.marks(0, 0), 40);
        due.same("mark taken", x.mark(0, 0, 3, false), 4);
        due.same("no entry", x.at(0, 0), 0);
    }

    private static void personsAreApart() {
        PlayStates x = new PlayStates(2);
        x.person();
        x.person();
        due.same("enter(0, 0, 1)", x.enter(0, 0, 1), 0);
        due.same("enter(1, 0, 1)", x.enter(1, 0, 1), 1);
        due.same("mark(1, 1, 2, true)", x.mark(1, 1, 2, true), 2);
        due.same("marks(0, 1)", x.marks(0, 1), 0);
        due.same("enter(0, 1, 7)", x.enter(0, 1, 7), 3);
        due.same("at(1, 1)", x.at(1, 1), 0);
        due.same("rows()", x.rows(), 4);
    }
}
