/**
 * What it is: "Play of a puzzle by persons: entries, small marks, undo and redo over a tree of rows, timers with pauses,
 * checks that tell a number only, helps that are counted, shared play joined by row numbers, states saved as texts and
 * read back." Each part of the sentence is one part of one play.
 */
public final class WhatItIsTest {
    private static final Due due = new Due();
    private static final int ANN = 0;
    private static final int BOB = 1;
    private static final int BOTH = 2;
    private static final int AGAIN = 3;

    public static void main(String[] args) {
        wholePlay();
        checksChangeNothing();
        due.end();
    }

    /** Four places: 1, 2, 3 and 4 are right. */
    private static void wholePlay() {
        Play x = Play.withPersons(4, 2);
        for (int place = 0; place < 4; place++) {
            x.truth(place, place + 1);
        }
        entriesAndSmallMarks(x);
        undoAndRedoOverATree(x);
        timersWithPauses(x);
        checksThatTellANumberOnly(x);
        helpsThatAreCounted(x);
        joinedByRowNumbers(x);
        savedAsTextsAndReadBack(x);
    }

    private static void entriesAndSmallMarks(Play x) {
        due.same("enter(ANN, 0, 1)", x.enter(ANN, 0, 1), 0);
        due.same("mark(ANN, 1, 7, true)", x.mark(ANN, 1, 7, true), 1);
        due.same("mark(ANN, 1, 2, true)", x.mark(ANN, 1, 2, true), 2);
        due.same("enter(BOB, 1, 9)", x.enter(BOB, 1, 9), 3);
        due.same("mark(ANN, 1, 7, false)", x.mark(ANN, 1, 7, false), 4);
        due.same("saved(ANN)", x.saved(ANN), "1.(2)..");
        due.same("saved(BOB)", x.saved(BOB), ".9..");
    }

    private static void undoAndRedoOverATree(Play x) {
        due.same("undo(ANN)", x.undo(ANN), 4);
        due.same("saved(ANN)", x.saved(ANN), "1.(27)..");
        due.same("enter(ANN, 3, 8), another branch", x.enter(ANN, 3, 8), 5);
        due.same("undo(ANN)", x.undo(ANN), 5);
        due.same("branches(ANN)", x.branches(ANN), 2);
        due.same("redo(ANN, 0), the older branch", x.redo(ANN, 0), 4);
        due.same("saved(ANN)", x.saved(ANN), "1.(2)..");
        due.same("undo(ANN)", x.undo(ANN), 4);
        due.same("redo(ANN, 1), the later branch", x.redo(ANN, 1), 5);
        due.same("saved(ANN)", x.saved(ANN), "1.(27).8");
    }

    private static void timersWithPauses(Play x) {
        due.same("timer(ANN, 1000, true)", x.timer(ANN, 1000, true), true);
        due.same("timer(ANN, 1400, false), a pause", x.timer(ANN, 1400, false), true);
        due.same("time(ANN, 5000) in the pause", x.time(ANN, 5000), 400);
        due.same("timer(ANN, 6000, true)", x.timer(ANN, 6000, true), true);
        due.same("time(ANN, 6250)", x.time(ANN, 6250), 650);
        due.same("time(BOB, 6250)", x.time(BOB, 6250), 0);
    }

    /** One wrong entry each, at another place and with another number: the answer is the same. */
    private static void checksThatTellANumberOnly(Play x) {
        due.same("wrong(ANN)", x.wrong(ANN), 1);
        due.same("wrong(BOB)", x.wrong(BOB), 1);
    }

    private static void helpsThatAreCounted(Play x) {
        due.same("help(BOB)", x.help(BOB), 0);
        due.same("help(BOB)", x.help(BOB), 2);
        due.same("undo(BOB)", x.undo(BOB), 7);
        due.same("helps(BOB)", x.helps(BOB), 2);
        due.same("helps(ANN)", x.helps(ANN), 0);
        due.same("saved(BOB)", x.saved(BOB), "19..");
    }

    /** Rows 0, 1, 2, 3 and 5 in this order; row 6 enters what row 0 did and is left out. */
    private static void joinedByRowNumbers(Play x) {
        due.same("join(BOB, ANN)", x.join(BOB, ANN), BOTH);
        String[] texts = {"....", "1...", "1.(7)..", "1.(27)..", "19(27)..", "19(27).8"};
        for (int n = 5; n >= 1; n--) {
            due.same("saved(BOTH)", x.saved(BOTH), texts[n]);
            due.same("undo(BOTH)", x.undo(BOTH), 7 + n);
        }
        due.same("saved(BOTH)", x.saved(BOTH), texts[0]);
        due.same("undo(BOTH) at the root", x.undo(BOTH), -1);
        for (int n = 1; n <= 5; n++) {
            due.same("redo(BOTH, 0)", x.redo(BOTH, 0), 7 + n);
        }
    }

    private static void savedAsTextsAndReadBack(Play x) {
        String text = x.saved(BOTH);
        due.same("load()", x.load(text), AGAIN);
        due.same("saved(AGAIN)", x.saved(AGAIN), text);
        for (int place = 0; place < 4; place++) {
            due.same("at, place " + place, x.at(AGAIN, place), x.at(BOTH, place));
            due.same("marks, place " + place, x.marks(AGAIN, place), x.marks(BOTH, place));
        }
        due.same("wrong(AGAIN)", x.wrong(AGAIN), 2);
    }

    /** "checks that tell a number only": a check does not mend, mark or enter anything. */
    private static void checksChangeNothing() {
        due.doesNothing(Play::start, "wrong(0), a wrong entry", x -> x.wrong(0), 1);
        due.doesNothing(Play::start, "wrong(1), none", x -> x.wrong(1), 0);
    }
}
