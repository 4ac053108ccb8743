/**
 * An object under test that counts its calls, since the document promises nothing after the 512th, and that can tell
 * all that is seen of its state.
 */
final class Play {
    /** The persons of start() are 0 and 1. */
    static final int[] NOT_PERSONS = {-1, 2, Integer.MIN_VALUE, -2, 7, 8, Integer.MAX_VALUE};
    /** The places of start() are 0, 1 and 2. */
    static final int[] NOT_PLACES = {-1, 3, Integer.MIN_VALUE, 81, Integer.MAX_VALUE};

    private static final int MOST_CALLS = 512;
    private static final long LATE = 1_000_000;

    private final PlayStates x;
    private final int places;
    private int calls = 0;
    private boolean countsCalls = true;

    Play(int places) {
        x = new PlayStates(places);
        this.places = Math.max(1, Math.min(places, 81));
    }

    static Play withPersons(int places, int n) {
        Play made = new Play(places);
        for (int i = 0; i < n; i++) {
            made.person();
        }
        return made;
    }

    /**
     * Three places and two persons with something of everything. Person 0 has rows 0 and 1 and, undone, 2: "5.(4).",
     * its timer runs since 100. Person 1 has rows 3 and 4, a help: "1.9", its timer was told 50 and does not run.
     */
    static Play start() {
        Play made = withPersons(3, 2);
        made.truth(0, 1);
        made.truth(2, 9);
        made.enter(0, 0, 5);
        made.mark(0, 1, 4, true);
        made.mark(0, 2, 2, true);
        made.undo(0);
        made.enter(1, 2, 9);
        made.help(1);
        made.timer(0, 100, true);
        made.timer(1, 50, false);
        return made;
    }

    /**
     * Three places, persons 0 to 5 and n rows, n at least 24, all of them entries at place 0; places 1 and 2 are told
     * of. The joins make 12 rows of each that is entered; person 1 enters what is left, at most 23 rows.
     */
    static Play withRows(int n) {
        Play made = withPersons(3, 2);
        made.truth(1, 7);
        made.truth(2, 8);
        int entered = 2 * (n / 24);
        for (int i = 0; i < entered; i++) {
            made.enter(0, 0, 1 + i % 2);
        }
        made.join(0, 1);
        made.join(0, 2);
        made.join(2, 3);
        made.join(3, 4);
        for (int i = 12 * entered; i < n; i++) {
            made.enter(1, 0, 1 + i % 2);
        }
        if (made.x.rows() != n) {
            throw new IllegalStateException("withRows(" + n + ") made " + made.x.rows() + " rows");
        }
        return made;
    }

    /**
     * For the few limits that the document names but that no 512 calls can reach. "What later calls answer is free", so
     * these hold the class to its own way there (to the same limits), not to a promise.
     */
    Play goBeyond() {
        countsCalls = false;
        return this;
    }

    int calls() {
        return calls;
    }

    private PlayStates counted() {
        calls++;
        if (countsCalls && calls > MOST_CALLS) {
            throw new IllegalStateException("this test makes more than " + MOST_CALLS + " calls of one object");
        }
        return x;
    }

    int person() {
        return counted().person();
    }

    int enter(int person, int place, int v) {
        return counted().enter(person, place, v);
    }

    int mark(int person, int place, int v, boolean on) {
        return counted().mark(person, place, v, on);
    }

    int undo(int person) {
        return counted().undo(person);
    }

    int redo(int person, int k) {
        return counted().redo(person, k);
    }

    int branches(int person) {
        return counted().branches(person);
    }

    int at(int person, int place) {
        return counted().at(person, place);
    }

    int marks(int person, int place) {
        return counted().marks(person, place);
    }

    boolean truth(int place, int v) {
        return counted().truth(place, v);
    }

    int wrong(int person) {
        return counted().wrong(person);
    }

    int help(int person) {
        return counted().help(person);
    }

    int helps(int person) {
        return counted().helps(person);
    }

    boolean timer(int person, long ms, boolean run) {
        return counted().timer(person, ms, run);
    }

    long time(int person, long ms) {
        return counted().time(person, ms);
    }

    int join(int person, int other) {
        return counted().join(person, other);
    }

    int save(int person, int i) {
        return counted().save(person, i);
    }

    boolean unit(int u) {
        return counted().unit(u);
    }

    int load() {
        return counted().load();
    }

    int rows() {
        return counted().rows();
    }

    /** Gives a text byte by byte, then loads. */
    int load(String text) {
        units(text);
        return load();
    }

    void units(String text) {
        for (int i = 0; i < text.length(); i++) {
            unit(text.charAt(i));
        }
    }

    /** A person's state as save tells it, byte by byte. */
    String saved(int person) {
        StringBuilder text = new StringBuilder();
        for (int b = save(person, 0); b != -1; b = save(person, text.length())) {
            text.append((char) b);
        }
        return text.toString();
    }

    /** The present row, or -1 for the root: by an undo, and the redo that takes it back. */
    int present(int person) {
        int row = undo(person);
        for (int k = 0; row != -1 && redo(person, k) != row; k++) {
            undo(person);
        }
        return row;
    }

    /** All that can be seen of the state without changing it. */
    String seen() {
        StringBuilder text = new StringBuilder("rows ").append(rows());
        for (int person = 0; person < 9; person++) {
            int branches = branches(person);
            text.append("; person ").append(person).append(": branches ").append(branches);
            if (branches == -1) {
                break;
            }
            text.append(seenOf(person));
        }
        return text.toString();
    }

    private String seenOf(int person) {
        StringBuilder text = new StringBuilder();
        text.append(", present ").append(present(person)).append(", helps ").append(helps(person));
        text.append(", wrong ").append(wrong(person)).append(", time ").append(time(person, LATE));
        text.append(" then ").append(time(person, LATE + 1)).append(", places");
        for (int place = 0; place < places; place++) {
            text.append(' ').append(at(person, place)).append('/').append(marks(person, place));
        }
        return text.toString();
    }

    /** What further play answers: it shows also what no look can tell, as the bytes that came and the time told last. */
    String goOn() {
        StringBuilder text = new StringBuilder("load ").append(load());
        for (int person = 0; person < 8 && helps(person) != -1; person++) {
            text.append("; person ").append(person).append(':').append(goOnOf(person));
        }
        text.append("; join ").append(join(0, 1)).append(", person ").append(person()).append(", rows ").append(rows());
        return text.toString();
    }

    private String goOnOf(int person) {
        StringBuilder text = new StringBuilder(" times");
        for (long ms : new long[] {0, 49, 50, 99, 100}) {
            text.append(' ').append(time(person, ms));
        }
        text.append(", told ").append(timer(person, 100, true)).append(' ').append(time(person, 107));
        text.append(", help ").append(help(person)).append(' ').append(help(person));
        text.append(", undo ").append(undo(person)).append(' ').append(undo(person)).append(' ').append(undo(person));
        text.append(", redo ").append(redo(person, 1)).append(' ').append(redo(person, 0));
        text.append(", enter ").append(enter(person, 1, 3)).append(", mark ").append(mark(person, 1, 3, true));
        text.append(", helps ").append(helps(person)).append(", wrong ").append(wrong(person));
        return text.toString();
    }
}
