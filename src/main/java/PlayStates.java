import java.util.Arrays;

/** Play of a puzzle by persons; the promises are numbered as in the document. */
public final class PlayStates {
    private static final int NONE = -1;
    private static final int NO_ROOM_TO_LOAD = -1001;

    private static final int MOST_PLACES = 81;
    private static final int MOST_PERSONS = 8;
    private static final int MOST_ROWS = 600;
    private static final int MOST_UNITS = 1000;
    private static final int MOST_VALUE = 9;

    // What a row tells: v for an entry, PUT + v and TAKEN + v for a mark.
    private static final int PUT = 10;
    private static final int TAKEN = 20;

    private static final int OPENING = 40;
    private static final int CLOSING = 41;
    private static final int POINT = 46;
    private static final int DIGIT_ZERO = 48;

    private final int placeCount;
    private final int[] right;
    private final Person[] persons;
    private int personCount;
    private final RowTable table;
    private final boolean[] joining;
    private final int[] units;
    private int unitCount;
    // Joins and loads are tried here first, so that a refused one does nothing.
    private final Board draft;
    private final StateReader reader;

    /** Promise 1. */
    public PlayStates(int places) {
        placeCount = Math.max(1, Math.min(places, MOST_PLACES));
        right = new int[placeCount];
        persons = new Person[MOST_PERSONS];
        table = new RowTable();
        joining = new boolean[MOST_ROWS];
        units = new int[MOST_UNITS];
        draft = new Board(placeCount);
        reader = new StateReader(draft, placeCount);
    }

    /** Promise 2. */
    public int person() {
        return hasRoomForPerson() ? addPerson().number : NONE;
    }

    /** Promise 3. */
    public int enter(int person, int place, int v) {
        Person who = find(person);
        if (who == null || !isPlace(place) || !isZeroToNine(v)) {
            return NONE;
        }
        return tell(who, place, v);
    }

    /** Promise 4. */
    public int mark(int person, int place, int v, boolean on) {
        Person who = find(person);
        if (who == null || !isPlace(place) || !isOneToNine(v)) {
            return NONE;
        }
        return tell(who, place, on ? PUT + v : TAKEN + v);
    }

    /** Promise 5. */
    public int undo(int person) {
        Person who = find(person);
        if (who == null || !table.holds(who.present)) {
            return NONE;
        }
        int row = who.present;
        who.board.put(table.place[row], table.before[row]);
        who.present = table.behind[row];
        return row;
    }

    /** Promise 6. */
    public int redo(int person, int k) {
        Person who = find(person);
        if (who == null) {
            return NONE;
        }
        int row = table.findBranch(who.present, k);
        if (!table.holds(row)) {
            return NONE;
        }
        who.board.put(table.place[row], table.told[row]);
        who.present = row;
        return row;
    }

    /** Promise 7. */
    public int branches(int person) {
        Person who = find(person);
        return who == null ? NONE : table.countBranches(who.present);
    }

    /** Promise 8. */
    public int at(int person, int place) {
        Person who = find(person);
        return who == null || !isPlace(place) ? NONE : who.board.entries[place];
    }

    /** Promise 9. */
    public int marks(int person, int place) {
        Person who = find(person);
        return who == null || !isPlace(place) ? NONE : who.board.markBits[place];
    }

    /** Promise 10. */
    public boolean truth(int place, int v) {
        if (!isPlace(place) || !isZeroToNine(v)) {
            return false;
        }
        right[place] = v;
        return true;
    }

    /** Promise 11. */
    public int wrong(int person) {
        Person who = find(person);
        if (who == null) {
            return NONE;
        }
        int count = 0;
        for (int place = 0; place < placeCount; place++) {
            if (isWrong(right[place], who.board.entries[place])) {
                count++;
            }
        }
        return count;
    }

    /** Promise 12. */
    public int help(int person) {
        Person who = find(person);
        if (who == null) {
            return NONE;
        }
        int place = findPlaceToHelp(who.board);
        if (!isPlace(place) || tell(who, place, right[place]) == NONE) {
            return NONE;
        }
        who.helpCount++;
        return place;
    }

    /** Promise 13. */
    public int helps(int person) {
        Person who = find(person);
        return who == null ? NONE : who.helpCount;
    }

    /** Promise 14. */
    public boolean timer(int person, long ms, boolean run) {
        Person who = find(person);
        if (who == null || !who.clock.mayBeTold(ms)) {
            return false;
        }
        who.clock.tellTime(ms, run);
        return true;
    }

    /** Promise 15. */
    public long time(int person, long ms) {
        Person who = find(person);
        return who == null || !who.clock.mayBeTold(ms) ? NONE : who.clock.countUpTo(ms);
    }

    /** Promise 16. */
    public int join(int person, int other) {
        Person one = find(person);
        Person two = find(other);
        if (one == null || two == null || person == other || !hasRoomForPerson()) {
            return NONE;
        }
        chooseJoining(one.present, two.present);
        if (!table.hasRoomFor(countJoined())) {
            return NONE;
        }
        Person joined = addPerson();
        tellJoined(joined);
        return joined.number;
    }

    /** Promise 17. */
    public int save(int person, int i) {
        Person who = find(person);
        if (who == null || i < 0) {
            return NONE;
        }
        int left = i;
        for (int place = 0; place < placeCount; place++) {
            int size = who.board.textSize(place);
            if (left < size) {
                return who.board.textByte(place, left);
            }
            left -= size;
        }
        return NONE;
    }

    /** Promise 18. */
    public boolean unit(int u) {
        if (u < 0 || u > 255 || unitCount >= MOST_UNITS) {
            return false;
        }
        units[unitCount] = u;
        unitCount++;
        return true;
    }

    /** Promise 19. */
    public int load() {
        int accepted = readUnits();
        boolean isRight = accepted == unitCount && reader.isWhole();
        unitCount = 0;
        if (!isRight) {
            return -1 - accepted;
        }
        if (!hasRoomForPerson() || !table.hasRoomFor(draft.countRowsNeeded())) {
            return NO_ROOM_TO_LOAD;
        }
        Person loaded = addPerson();
        tellDraft(loaded);
        return loaded.number;
    }

    /** Promise 20. */
    public int rows() {
        return table.count;
    }

    private static boolean isZeroToNine(int v) {
        return v >= 0 && v <= MOST_VALUE;
    }

    private static boolean isOneToNine(int v) {
        return v >= 1 && v <= MOST_VALUE;
    }

    private static boolean isWrong(int due, int entry) {
        return due != 0 && entry != 0 && entry != due;
    }

    private boolean isPlace(int place) {
        return place >= 0 && place < placeCount;
    }

    private Person find(int person) {
        return person >= 0 && person < personCount ? persons[person] : null;
    }

    private boolean hasRoomForPerson() {
        return personCount < MOST_PERSONS;
    }

    // Only behind hasRoomForPerson.
    private Person addPerson() {
        Person added = new Person(personCount, placeCount);
        persons[personCount] = added;
        personCount++;
        return added;
    }

    private int tell(Person who, int place, int told) {
        int before = who.board.asItIs(place, told);
        if (before == told || !table.hasRoomFor(1)) {
            return NONE;
        }
        who.present = table.add(place, told, before, who.present);
        who.board.put(place, told);
        return who.present;
    }

    private int findPlaceToHelp(Board board) {
        for (int place = 0; place < placeCount; place++) {
            if (board.entries[place] == 0 && right[place] != 0) {
                return place;
            }
        }
        return NONE;
    }

    // A row comes behind one of a lesser number, so one way down the numbers meets both branches whole.
    private void chooseJoining(int presentOfOne, int presentOfTwo) {
        int nextOfOne = presentOfOne;
        int nextOfTwo = presentOfTwo;
        for (int row = table.count - 1; row >= 0; row--) {
            joining[row] = row == nextOfOne || row == nextOfTwo;
            if (row == nextOfOne) {
                nextOfOne = table.behind[row];
            } else if (row == nextOfTwo) {
                nextOfTwo = table.behind[row];
            }
        }
    }

    private int countJoined() {
        draft.clear();
        int changes = 0;
        for (int row = 0; row < table.count; row++) {
            int place = table.place[row];
            int told = table.told[row];
            if (joining[row] && draft.asItIs(place, told) != told) {
                draft.put(place, told);
                changes++;
            }
        }
        return changes;
    }

    private void tellJoined(Person joined) {
        // The table grows while this goes on; the new rows are not joined again.
        int oldCount = table.count;
        for (int row = 0; row < oldCount; row++) {
            if (joining[row]) {
                tell(joined, table.place[row], table.told[row]);
            }
        }
    }

    private int readUnits() {
        reader.begin();
        int accepted = 0;
        while (accepted < unitCount && reader.accepts(units[accepted])) {
            accepted++;
        }
        return accepted;
    }

    private void tellDraft(Person loaded) {
        for (int place = 0; place < placeCount; place++) {
            tell(loaded, place, draft.entries[place]);
            for (int v = 1; v <= MOST_VALUE; v++) {
                if (draft.hasMark(place, v)) {
                    tell(loaded, place, PUT + v);
                }
            }
        }
    }

    private static final class Person {
        private final int number;
        private final Board board;
        private final Clock clock;
        private int present;
        private int helpCount;

        Person(int number, int placeCount) {
            this.number = number;
            board = new Board(placeCount);
            clock = new Clock();
            // Below 0 and of this person alone: the table knows the branches of this root by it.
            present = -1 - number;
        }
    }

    /** Entries and marks at the places. */
    private static final class Board {
        private final int[] entries;
        private final int[] markBits;

        Board(int placeCount) {
            entries = new int[placeCount];
            markBits = new int[placeCount];
        }

        void clear() {
            Arrays.fill(entries, 0);
            Arrays.fill(markBits, 0);
        }

        boolean hasMark(int place, int v) {
            return (markBits[place] & (1 << v)) != 0;
        }

        /** What a row would have to tell for all to stay as it is: so a row's before can be put like its told. */
        int asItIs(int place, int told) {
            if (told < PUT) {
                return entries[place];
            }
            int v = told < TAKEN ? told - PUT : told - TAKEN;
            return hasMark(place, v) ? PUT + v : TAKEN + v;
        }

        void put(int place, int told) {
            if (told < PUT) {
                entries[place] = told;
            } else if (told < TAKEN) {
                markBits[place] |= 1 << (told - PUT);
            } else {
                markBits[place] &= ~(1 << (told - TAKEN));
            }
        }

        int countRowsNeeded() {
            int needed = 0;
            for (int place = 0; place < entries.length; place++) {
                needed += (entries[place] == 0 ? 0 : 1) + Integer.bitCount(markBits[place]);
            }
            return needed;
        }

        int textSize(int place) {
            int markCount = Integer.bitCount(markBits[place]);
            return markCount == 0 ? 1 : markCount + 3;
        }

        int textByte(int place, int i) {
            if (i == 0) {
                return entries[place] == 0 ? POINT : DIGIT_ZERO + entries[place];
            }
            if (i == 1) {
                return OPENING;
            }
            return i == textSize(place) - 1 ? CLOSING : DIGIT_ZERO + findMark(place, i - 2);
        }

        private int findMark(int place, int k) {
            int left = k;
            for (int v = 1; v <= MOST_VALUE; v++) {
                if (hasMark(place, v)) {
                    if (left == 0) {
                        return v;
                    }
                    left--;
                }
            }
            return 0;
        }
    }

    /** The rows of all persons; behind is the row that a row came behind, or its person's root. */
    private static final class RowTable {
        private final int[] place;
        private final int[] told;
        private final int[] before;
        private final int[] behind;
        private int count;

        RowTable() {
            place = new int[MOST_ROWS];
            told = new int[MOST_ROWS];
            before = new int[MOST_ROWS];
            behind = new int[MOST_ROWS];
        }

        boolean holds(int row) {
            return row >= 0 && row < count;
        }

        boolean hasRoomFor(int more) {
            return more <= MOST_ROWS - count;
        }

        // Only behind hasRoomFor.
        int add(int newPlace, int newTold, int newBefore, int newBehind) {
            int row = count;
            place[row] = newPlace;
            told[row] = newTold;
            before[row] = newBefore;
            behind[row] = newBehind;
            count++;
            return row;
        }

        int countBranches(int present) {
            int found = 0;
            for (int row = 0; row < count; row++) {
                if (behind[row] == present) {
                    found++;
                }
            }
            return found;
        }

        int findBranch(int present, int k) {
            int found = 0;
            for (int row = 0; row < count; row++) {
                if (behind[row] == present) {
                    if (found == k) {
                        return row;
                    }
                    found++;
                }
            }
            return NONE;
        }
    }

    private static final class Clock {
        private boolean running;
        // 0 before any telling: then just the times below 0 may not be told.
        private long lastTold;
        private long counted;

        boolean mayBeTold(long ms) {
            return ms >= lastTold;
        }

        long countUpTo(long ms) {
            return running ? counted + (ms - lastTold) : counted;
        }

        void tellTime(long ms, boolean run) {
            counted = countUpTo(ms);
            lastTold = ms;
            running = run;
        }
    }

    /** Reads a saved state byte by byte into a board. */
    private static final class StateReader {
        private final Board board;
        private final int placeCount;
        private int placesRead;
        private boolean mayOpen;
        private boolean open;
        private int lastMark;

        StateReader(Board board, int placeCount) {
            this.board = board;
            this.placeCount = placeCount;
        }

        void begin() {
            board.clear();
            placesRead = 0;
            mayOpen = false;
            open = false;
        }

        boolean accepts(int unit) {
            if (open) {
                return unit == CLOSING ? acceptsClosing() : acceptsMark(unit - DIGIT_ZERO);
            }
            if (unit == OPENING) {
                return acceptsOpening();
            }
            return acceptsEntry(unit);
        }

        boolean isWhole() {
            return placesRead == placeCount && !open;
        }

        private boolean acceptsOpening() {
            if (!mayOpen) {
                return false;
            }
            mayOpen = false;
            open = true;
            lastMark = 0;
            return true;
        }

        private boolean acceptsClosing() {
            if (lastMark == 0) {
                return false;
            }
            open = false;
            return true;
        }

        private boolean acceptsMark(int v) {
            if (!isOneToNine(v) || v <= lastMark) {
                return false;
            }
            board.put(placesRead - 1, PUT + v);
            lastMark = v;
            return true;
        }

        private boolean acceptsEntry(int unit) {
            int v = unit == POINT ? 0 : unit - DIGIT_ZERO;
            if (placesRead >= placeCount || (unit != POINT && !isOneToNine(v))) {
                return false;
            }
            board.put(placesRead, v);
            placesRead++;
            mayOpen = true;
            return true;
        }
    }
}
