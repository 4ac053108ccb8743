/** The 600 rows, as promises 3, 4, 12, 16, 19 and 20 name them, within 512 calls of an object. */
public final class RoomTest {
    private static final Due due = new Due();

    public static void main(String[] args) {
        lastRowByEnter();
        lastRowByMark();
        lastRowByHelp();
        joinFillsTheRoom();
        joinNeedsRoomForWhatChanges();
        loadFillsTheRoom();
        fullRoomStillPlays();
        due.end();
    }

    /** Persons 0 to 4 and n rows, a quarter of them each of person 0 and of three that were joined from it. */
    private static PlayStates withRows(int n) {
        PlayStates x = new PlayStates(3);
        x.person();
        x.person();
        Due.enterMany(x, 0, n / 4);
        for (int i = 0; i < 3; i++) {
            x.join(0, 1);
        }
        return x;
    }

    private static void lastRowByEnter() {
        PlayStates x = withRows(596);
        due.same("rows()", x.rows(), 596);
        for (int i = 0; i < 4; i++) {
            due.same("enter(1, 0, v)", x.enter(1, 0, i + 1), 596 + i);
        }
        due.same("enter(1, 0, 9), no room", x.enter(1, 0, 9), -1);
        due.same("at(1, 0)", x.at(1, 0), 4);
        due.same("enter(1, 0, 0), no room", x.enter(1, 0, 0), -1);
        due.same("rows()", x.rows(), 600);
    }

    private static void lastRowByMark() {
        PlayStates x = withRows(596);
        for (int i = 0; i < 4; i++) {
            due.same("mark(1, 0, v, true)", x.mark(1, 0, i + 1, true), 596 + i);
        }
        due.same("mark(1, 0, 9, true), no room", x.mark(1, 0, 9, true), -1);
        due.same("mark(1, 0, 1, false), no room", x.mark(1, 0, 1, false), -1);
        due.same("marks(1, 0)", x.marks(1, 0), 30);
        due.same("rows()", x.rows(), 600);
    }

    private static void lastRowByHelp() {
        PlayStates x = withRows(596);
        x.truth(1, 7);
        x.truth(2, 8);
        for (int i = 0; i < 3; i++) {
            x.enter(1, 0, i + 1);
        }
        due.same("help(1)", x.help(1), 1);
        due.same("help(1), no room", x.help(1), -1);
        due.same("helps(1)", x.helps(1), 1);
        due.same("at(1, 2)", x.at(1, 2), 0);
        due.same("rows()", x.rows(), 600);
    }

    private static void joinFillsTheRoom() {
        PlayStates x = withRows(480);
        due.same("join(0, 1), just room", x.join(0, 1), 5);
        due.same("rows()", x.rows(), 600);
        due.same("join(0, 1), no room", x.join(0, 1), -1);
        x.person();
        due.same("join(1, 6) of two roots in a full room", x.join(1, 6), 7);
        due.same("rows()", x.rows(), 600);

        x = withRows(480);
        x.enter(1, 1, 9);
        due.same("join(0, 1), 121 rows", x.join(0, 1), -1);
        due.same("rows()", x.rows(), 481);
        due.same("person()", x.person(), 5);
        due.same("join(0, 5), 120 rows, room for 119", x.join(0, 5), -1);
        x.undo(0);
        due.same("join(0, 5), 119 rows", x.join(0, 5), 6);
        due.same("rows()", x.rows(), 600);
    }

    /** Persons 5 and 6 with ten rows each at place 1, of which 6's change nothing: 580 rows, then more to n. */
    private static PlayStates withTwins(int n) {
        PlayStates x = withRows(560);
        x.person();
        x.person();
        for (int i = 0; i < 10; i++) {
            x.enter(5, 1, 1 + i % 2);
            x.enter(6, 1, 1 + i % 2);
        }
        for (int i = 580; i < n; i++) {
            x.enter(1, 0, 1 + i % 2);
        }
        due.same("rows()", x.rows(), n);
        return x;
    }

    private static void joinNeedsRoomForWhatChanges() {
        PlayStates x = withTwins(590);
        due.same("join(5, 6), room for ten", x.join(5, 6), 7);
        due.same("rows()", x.rows(), 600);
        due.same("state", Due.saved(x, 7), ".2.");

        x = withTwins(591);
        due.same("join(5, 6), room for nine", x.join(5, 6), -1);
        Due.load(x, ".1x");
        due.same("join(5, 6), it begins with nothing entered", x.join(5, 6), -1);
        due.same("rows()", x.rows(), 591);
    }

    private static void loadFillsTheRoom() {
        PlayStates x = withRows(580);
        due.same("load() of 21 rows", Due.load(x, "7(123456789)7(123456789)7"), -1001);
        due.same("rows()", x.rows(), 580);
        due.same("load() of 20 rows", Due.load(x, "7(123456789).7(123456789)"), 5);
        due.same("rows()", x.rows(), 600);
        due.same("load() of 1 row in a full room", Due.load(x, "..1"), -1001);
        due.same("load() of no row in a full room", Due.load(x, "..."), 6);
        due.same("load() of a wrong text in a full room", Due.load(x, ".1"), -3);
    }

    private static void fullRoomStillPlays() {
        PlayStates x = withRows(600);
        due.same("rows()", x.rows(), 600);
        due.same("undo(4)", x.undo(4), 599);
        due.same("undo(4)", x.undo(4), 598);
        due.same("branches(4)", x.branches(4), 1);
        due.same("redo(4, 0)", x.redo(4, 0), 598);
        due.same("redo(4, 0)", x.redo(4, 0), 599);
        due.same("redo(4, 0) behind the last row", x.redo(4, 0), -1);
        due.same("branches(4) behind the last row", x.branches(4), 0);
        due.same("undo(0)", x.undo(0), 149);
        due.same("enter(0, 1, 1), undo makes no room", x.enter(0, 1, 1), -1);
    }
}
