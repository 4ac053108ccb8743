import java.util.ArrayList;
import java.util.List;
import java.util.Map;
import java.util.TreeMap;
import java.util.function.ToLongFunction;

/**
 * Not promised: "Nothing is promised beyond the answers and state changes described above, and nothing about an object
 * after its 512th call." So each call changes what is described of it, and nothing beside it.
 */
public final class NotPromisedTest {
    private static final Due due = new Due();

    public static void main(String[] args) {
        looksChangeNothing();
        entriesAndMarks();
        undoAndRedo();
        theTruth();
        helpsAndTimers();
        newPersons();
        bytes();
        due.end();
    }

    /** The calls that only tell something, with persons, places and bytes that there are. */
    private static void looksChangeNothing() {
        due.doesNothing(Play::start, "branches(0)", x -> x.branches(0), 1);
        due.doesNothing(Play::start, "branches(1)", x -> x.branches(1), 0);
        due.doesNothing(Play::start, "at(0, 0)", x -> x.at(0, 0), 5);
        due.doesNothing(Play::start, "at(0, 1), no entry", x -> x.at(0, 1), 0);
        due.doesNothing(Play::start, "marks(0, 1)", x -> x.marks(0, 1), 16);
        due.doesNothing(Play::start, "marks(1, 0), no marks", x -> x.marks(1, 0), 0);
        due.doesNothing(Play::start, "wrong(0)", x -> x.wrong(0), 1);
        due.doesNothing(Play::start, "helps(1)", x -> x.helps(1), 1);
        due.doesNothing(Play::start, "time(0, 150)", x -> x.time(0, 150), 50);
        due.doesNothing(Play::start, "save(0, 3)", x -> x.save(0, 3), '4');
        due.doesNothing(Play::start, "rows()", x -> x.rows(), 5);
    }

    private static void entriesAndMarks() {
        changes("enter(0, 1, 7)", x -> x.enter(0, 1, 7), 5, "rows, 0 branches, 0 place 1, 0 present");
        changes("enter(0, 0, 1), which is right", x -> x.enter(0, 0, 1), 5,
            "rows, 0 branches, 0 place 0, 0 present, 0 wrong");
        changes("enter(1, 2, 0)", x -> x.enter(1, 2, 0), 5, "rows, 1 place 2, 1 present");
        changes("mark(0, 0, 9, true)", x -> x.mark(0, 0, 9, true), 5, "rows, 0 branches, 0 place 0, 0 present");
        changes("mark(0, 1, 4, false)", x -> x.mark(0, 1, 4, false), 5, "rows, 0 branches, 0 place 1, 0 present");
        changes("mark(1, 0, 1, true)", x -> x.mark(1, 0, 1, true), 5, "rows, 1 place 0, 1 present");
    }

    /** Of person 1 a help is undone: how many there were stays. */
    private static void undoAndRedo() {
        changes("undo(0)", x -> x.undo(0), 1, "0 place 1, 0 present");
        changes("undo(1)", x -> x.undo(1), 4, "1 branches, 1 place 0, 1 present");
        changes("redo(0, 0)", x -> x.redo(0, 0), 2, "0 branches, 0 place 2, 0 present");
    }

    private static void theTruth() {
        changes("truth(0, 5)", x -> x.truth(0, 5) ? 1 : 0, 1, "0 wrong, 1 wrong");
        changes("truth(2, 0)", x -> x.truth(2, 0) ? 1 : 0, 1, "");
        changes("truth(1, 4), where nobody entered", x -> x.truth(1, 4) ? 1 : 0, 1, "");
    }

    private static void helpsAndTimers() {
        changes("help(0)", x -> x.help(0), 2, "rows, 0 branches, 0 helps, 0 place 2, 0 present");
        changes("timer(0, 150, false)", x -> x.timer(0, 150, false) ? 1 : 0, 1, "0 time");
        changes("timer(0, 150, true), running on", x -> x.timer(0, 150, true) ? 1 : 0, 1, "");
        changes("timer(1, 150, true)", x -> x.timer(1, 150, true) ? 1 : 0, 1, "1 time");
    }

    private static void newPersons() {
        changes("person()", x -> x.person(), 2, "person 2");
        changes("join(0, 1)", x -> x.join(0, 1), 2, "rows, person 2");
        changes("join(1, 0)", x -> x.join(1, 0), 2, "rows, person 2");
        changes("load() of 1.(23)9", x -> x.load("1.(23)9"), 2, "rows, person 2");
        changes("load() of ...", x -> x.load("..."), 2, "person 2");
    }

    private static void bytes() {
        changes("unit('5')", x -> x.unit('5') ? 1 : 0, 1, "");
        changes("unit(0)", x -> x.unit(0) ? 1 : 0, 1, "");
    }

    private static void changes(String call, ToLongFunction<Play> made, long want, String those) {
        Play x = Play.start();
        Map<String, String> before = things(x.seen());
        due.same(call, made.applyAsLong(x), want);
        due.same("what " + call + " changes", changed(before, things(x.seen())), those);
    }

    /** The names of those that are not as before; a new person counts as one. */
    private static String changed(Map<String, String> before, Map<String, String> after) {
        List<String> names = new ArrayList<>();
        if (!before.get("rows").equals(after.get("rows"))) {
            names.add("rows");
        }
        for (String name : after.keySet()) {
            if (!name.equals("rows") && before.containsKey(name) && !before.get(name).equals(after.get(name))) {
                names.add(name);
            }
        }
        for (String name : after.keySet()) {
            if (!before.containsKey(name) && name.endsWith(" present")) {
                names.add("person " + name.substring(0, name.indexOf(' ')));
            }
        }
        return String.join(", ", names);
    }

    /** All that Play.seen tells, one thing by one, by its person and name. */
    private static Map<String, String> things(String seen) {
        Map<String, String> found = new TreeMap<>();
        for (String part : seen.split("; ")) {
            if (part.startsWith("rows ")) {
                found.put("rows", part);
            } else if (!part.endsWith("branches -1")) {
                thingsOf(part.substring("person ".length(), part.indexOf(':')), part.substring(part.indexOf(':') + 2), found);
            }
        }
        return found;
    }

    private static void thingsOf(String person, String told, Map<String, String> found) {
        for (String thing : told.split(", ")) {
            String[] words = thing.split(" ");
            if (!words[0].equals("places")) {
                found.put(person + " " + words[0], thing);
            }
            for (int i = 1; words[0].equals("places") && i < words.length; i++) {
                found.put(person + " place " + (i - 1), words[i]);
            }
        }
    }
}
