import java.util.function.Supplier;
import java.util.function.ToLongFunction;

/** Compares answers with those that are due, and ends a test with exit code 1 if one was not. */
final class Due {
    private int seen = 0;
    private int wrong = 0;

    void same(String call, long got, long want) {
        seen++;
        if (got != want) {
            wrong++;
            System.out.println(call + " answered " + got + ", due is " + want);
        }
    }

    void same(String call, boolean got, boolean want) {
        same(call, got ? 1 : 0, want ? 1 : 0);
    }

    void same(String call, String got, String want) {
        seen++;
        if (!got.equals(want)) {
            wrong++;
            System.out.println(call + " answered '" + got + "', due is '" + want + "'");
        }
    }

    /**
     * A call that is refused: its answer, and that it does nothing. All that is seen is afterwards what it was before,
     * and further play answers as that of a twin without the call.
     */
    void doesNothing(Supplier<Play> start, String call, ToLongFunction<Play> refused, long want) {
        Play x = start.get();
        String before = x.seen();
        same(call, refused.applyAsLong(x), want);
        same("what is seen after " + call, x.seen(), before);
        same("play after " + call, x.goOn(), start.get().goOn());
    }

    void end() {
        System.out.println(wrong == 0 ? seen + " answers are as due" : wrong + " of " + seen + " answers are not as due");
        if (wrong != 0 || seen == 0) {
            System.exit(1);
        }
    }

    /** A person's state as save tells it, byte by byte. */
    static String saved(PlayStates x, int person) {
        StringBuilder text = new StringBuilder();
        for (int i = 0; i < 2000; i++) {
            int b = x.save(person, i);
            if (b == -1) {
                break;
            }
            text.append((char) b);
        }
        return text.toString();
    }

    /** Gives a text byte by byte to unit, then loads. */
    static int load(PlayStates x, String text) {
        for (int i = 0; i < text.length(); i++) {
            x.unit(text.charAt(i));
        }
        return x.load();
    }

    /** n entries of a person, each another one than is there; n at most 250 or so, to keep to 512 calls. */
    static void enterMany(PlayStates x, int person, int n) {
        for (int i = 0; i < n; i++) {
            x.enter(person, 0, x.at(person, 0) == 1 ? 2 : 1);
        }
    }
}
