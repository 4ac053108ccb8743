import java.util.ArrayList;
import java.util.List;
import java.util.TreeMap;
import java.util.TreeSet;

/**
 * The document once more, another way: a person is just the list of rows from the root to the present one,
 * and each answer is worked out anew from those rows.
 */
final class PlainModel {
    private record Row(int number, Row behind, int owner, int place, int told) { }

    private static final class Player {
        Row present = null;
        int helps = 0;
        final List<long[]> tellings = new ArrayList<>();
    }

    private static final class State {
        final TreeMap<Integer, Integer> entries = new TreeMap<>();
        final TreeMap<Integer, TreeSet<Integer>> marks = new TreeMap<>();

        boolean changedBy(int place, int told) {
            TreeSet<Integer> there = marks.computeIfAbsent(place, p -> new TreeSet<>());
            if (told >= 20) {
                return there.remove(told - 20);
            }
            if (told >= 10) {
                return there.add(told - 10);
            }
            Integer old = told == 0 ? entries.remove(place) : entries.put(place, told);
            return (old == null ? 0 : old) != told;
        }
    }

    private final int places;
    private final TreeMap<Integer, Integer> truth = new TreeMap<>();
    private final List<Player> players = new ArrayList<>();
    private final List<Row> rows = new ArrayList<>();
    private StringBuilder units = new StringBuilder();

    PlainModel(int places) {
        this.places = places < 1 ? 1 : places > 81 ? 81 : places;
    }

    private Player player(int person) {
        return person < 0 || person >= players.size() ? null : players.get(person);
    }

    private boolean noPlace(int place) {
        return place < 0 || place >= places;
    }

    private static List<Row> way(Row present) {
        List<Row> way = new ArrayList<>();
        for (Row r = present; r != null; r = r.behind) {
            way.add(0, r);
        }
        return way;
    }

    private static State state(Player p) {
        State s = new State();
        for (Row r : way(p.present)) {
            s.changedBy(r.place, r.told);
        }
        return s;
    }

    private int tell(int person, int place, int told) {
        Player p = players.get(person);
        if (rows.size() == 600 || !state(p).changedBy(place, told)) {
            return -1;
        }
        p.present = new Row(rows.size(), p.present, person, place, told);
        rows.add(p.present);
        return p.present.number;
    }

    int person() {
        if (players.size() == 8) {
            return -1;
        }
        players.add(new Player());
        return players.size() - 1;
    }

    int enter(int person, int place, int v) {
        return player(person) == null || noPlace(place) || v < 0 || v > 9 ? -1 : tell(person, place, v);
    }

    int mark(int person, int place, int v, boolean on) {
        return player(person) == null || noPlace(place) || v < 1 || v > 9 ? -1 : tell(person, place, (on ? 10 : 20) + v);
    }

    int undo(int person) {
        Player p = player(person);
        if (p == null || p.present == null) {
            return -1;
        }
        int number = p.present.number;
        p.present = p.present.behind;
        return number;
    }

    private List<Row> behind(int person) {
        List<Row> found = new ArrayList<>();
        for (Row r : rows) {
            if (r.owner == person && r.behind == players.get(person).present) {
                found.add(r);
            }
        }
        return found;
    }

    int redo(int person, int k) {
        if (player(person) == null || k < 0 || k >= behind(person).size()) {
            return -1;
        }
        player(person).present = behind(person).get(k);
        return player(person).present.number;
    }

    int branches(int person) {
        return player(person) == null ? -1 : behind(person).size();
    }

    int at(int person, int place) {
        return player(person) == null || noPlace(place) ? -1 : state(player(person)).entries.getOrDefault(place, 0);
    }

    int marks(int person, int place) {
        if (player(person) == null || noPlace(place)) {
            return -1;
        }
        int bits = 0;
        for (int v : state(player(person)).marks.getOrDefault(place, new TreeSet<>())) {
            bits += 1 << v;
        }
        return bits;
    }

    boolean truth(int place, int v) {
        if (noPlace(place) || v < 0 || v > 9) {
            return false;
        }
        if (v == 0) {
            truth.remove(place);
        } else {
            truth.put(place, v);
        }
        return true;
    }

    int wrong(int person) {
        if (player(person) == null) {
            return -1;
        }
        State s = state(player(person));
        int n = 0;
        for (int place : s.entries.keySet()) {
            if (truth.containsKey(place) && !truth.get(place).equals(s.entries.get(place))) {
                n++;
            }
        }
        return n;
    }

    int help(int person) {
        if (player(person) == null || rows.size() == 600) {
            return -1;
        }
        for (int place : truth.keySet()) {
            if (!state(player(person)).entries.containsKey(place)) {
                tell(person, place, truth.get(place));
                player(person).helps++;
                return place;
            }
        }
        return -1;
    }

    int helps(int person) {
        return player(person) == null ? -1 : player(person).helps;
    }

    private static boolean mayTell(Player p, long ms) {
        return ms >= 0 && (p.tellings.isEmpty() || p.tellings.get(p.tellings.size() - 1)[0] <= ms);
    }

    boolean timer(int person, long ms, boolean run) {
        Player p = player(person);
        return p != null && mayTell(p, ms) && p.tellings.add(new long[] {ms, run ? 1 : 0});
    }

    long time(int person, long ms) {
        Player p = player(person);
        if (p == null || !mayTell(p, ms)) {
            return -1;
        }
        long sum = 0;
        for (int i = 0; i < p.tellings.size(); i++) {
            long next = i + 1 < p.tellings.size() ? p.tellings.get(i + 1)[0] : ms;
            sum += p.tellings.get(i)[1] * (next - p.tellings.get(i)[0]);
        }
        return sum;
    }

    int join(int person, int other) {
        if (player(person) == null || player(other) == null || person == other || players.size() == 8) {
            return -1;
        }
        TreeMap<Integer, Row> both = new TreeMap<>();
        way(player(person).present).forEach(r -> both.put(r.number, r));
        way(player(other).present).forEach(r -> both.put(r.number, r));
        State s = new State();
        List<int[]> kept = new ArrayList<>();
        for (Row r : both.values()) {
            if (s.changedBy(r.place, r.told)) {
                kept.add(new int[] {r.place, r.told});
            }
        }
        return newPlayer(kept);
    }

    private int newPlayer(List<int[]> kept) {
        if (players.size() == 8 || rows.size() + kept.size() > 600) {
            return -1;
        }
        int number = person();
        for (int[] r : kept) {
            tell(number, r[0], r[1]);
        }
        return number;
    }

    String saved(int person) {
        StringBuilder text = new StringBuilder();
        State s = state(player(person));
        for (int place = 0; place < places; place++) {
            text.append(s.entries.containsKey(place) ? "" + s.entries.get(place) : ".");
            TreeSet<Integer> there = s.marks.getOrDefault(place, new TreeSet<>());
            if (!there.isEmpty()) {
                text.append('(');
                there.forEach(text::append);
                text.append(')');
            }
        }
        return text.toString();
    }

    int save(int person, int i) {
        return player(person) == null || i < 0 || i >= saved(person).length() ? -1 : saved(person).charAt(i);
    }

    boolean unit(int u) {
        if (u < 0 || u > 255 || units.length() == 1000) {
            return false;
        }
        units.append((char) u);
        return true;
    }

    private static final String PLACE = "[.1-9](\\((?=[1-9])1?2?3?4?5?6?7?8?9?\\))?";

    /** Whether some right text begins so: found by trying every way to end it within one place. */
    private boolean mayBegin(String text) {
        for (int n = 0; n <= places; n++) {
            for (String end : new String[] {"", ")", "1)", "2)", "3)", "4)", "5)", "6)", "7)", "8)", "9)"}) {
                if ((text + end).matches("(" + PLACE + "){" + n + "}")) {
                    return true;
                }
            }
        }
        return false;
    }

    int load() {
        String text = units.toString();
        units = new StringBuilder();
        if (!text.matches("(" + PLACE + "){" + places + "}")) {
            int right = 0;
            while (right < text.length() && mayBegin(text.substring(0, right + 1))) {
                right++;
            }
            return -1 - right;
        }
        List<int[]> kept = new ArrayList<>();
        int place = -1;
        boolean inside = false;
        for (char c : text.toCharArray()) {
            if (c == '(' || c == ')') {
                inside = c == '(';
            } else if (inside) {
                kept.add(new int[] {place, 10 + c - '0'});
            } else {
                place++;
                if (c != '.') {
                    kept.add(new int[] {place, c - '0'});
                }
            }
        }
        int number = newPlayer(kept);
        return number == -1 ? -1001 : number;
    }

    int rows() {
        return rows.size();
    }
}
