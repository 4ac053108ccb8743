import java.util.Random;

/** Random runs of at most 512 calls, each answer against the plain model's. The seeds are fixed. */
public final class ModelTest {
    private static final int CALLS = 512;
    private static final int RUNS = 1500;
    private static final Due due = new Due();

    private final Random random;
    private final String run;
    private final int places;
    private final PlayStates x;
    private final PlainModel model;
    private int calls = 0;
    private long clock = 0;

    private ModelTest(int seed) {
        random = new Random(seed);
        run = "run " + seed + ": ";
        int[] sizes = {1, 2, 3, 5, 9, 20, 81, 0, -3, 100};
        int told = sizes[random.nextInt(sizes.length)];
        places = Math.max(1, Math.min(told, 81));
        x = new PlayStates(told);
        model = new PlainModel(told);
    }

    public static void main(String[] args) {
        int fullRooms = 0;
        for (int seed = 0; seed < RUNS; seed++) {
            ModelTest test = new ModelTest(seed);
            test.play();
            fullRooms += test.model.rows() == 600 ? 1 : 0;
        }
        due.same("some runs fill the room", fullRooms > 0, true);
        due.end();
    }

    private void play() {
        // Few persons at first leave joins to grow the rows; some runs play long before they join.
        int quiet = random.nextInt(3) * 150;
        same("person()", x.person(), model.person());
        while (calls < CALLS) {
            int kind = random.nextInt(calls < quiet ? 60 : 100);
            if (kind < 60) {
                playOne(kind);
            } else if (kind < 85) {
                lookOne(kind);
            } else {
                growOne(kind);
            }
        }
    }

    private void same(String call, long got, long want) {
        calls++;
        due.same(run + call, got, want);
    }

    private void same(String call, boolean got, boolean want) {
        same(call, got ? 1 : 0, want ? 1 : 0);
    }

    private int about(int n) {
        return random.nextInt(40) == 0 ? random.nextInt(n + 6) - 3 : random.nextInt(n);
    }

    private int somePerson() {
        int n = 0;
        while (n < 8 && model.helps(n) >= 0) {
            n++;
        }
        return about(n);
    }

    private void playOne(int kind) {
        int person = somePerson();
        int place = about(places);
        int v = about(10);
        if (kind < 25) {
            same("enter(" + person + ", " + place + ", " + v + ")", x.enter(person, place, v), model.enter(person, place, v));
        } else if (kind < 45) {
            boolean on = random.nextInt(3) > 0;
            same("mark(" + person + ", " + place + ", " + v + ", " + on + ")", x.mark(person, place, v, on),
                model.mark(person, place, v, on));
        } else if (kind < 51) {
            same("undo(" + person + ")", x.undo(person), model.undo(person));
        } else if (kind < 55) {
            int k = random.nextInt(4) - (random.nextInt(20) == 0 ? 1 : 0);
            same("redo(" + person + ", " + k + ")", x.redo(person, k), model.redo(person, k));
        } else if (kind < 58) {
            same("truth(" + place + ", " + v + ")", x.truth(place, v), model.truth(place, v));
        } else {
            same("help(" + person + ")", x.help(person), model.help(person));
        }
    }

    private void lookOne(int kind) {
        int person = somePerson();
        int place = about(places);
        switch (kind % 9) {
            case 0 -> same("branches(" + person + ")", x.branches(person), model.branches(person));
            case 1 -> same("at(" + person + ", " + place + ")", x.at(person, place), model.at(person, place));
            case 2 -> same("marks(" + person + ", " + place + ")", x.marks(person, place), model.marks(person, place));
            case 3 -> same("wrong(" + person + ")", x.wrong(person), model.wrong(person));
            case 4 -> same("helps(" + person + ")", x.helps(person), model.helps(person));
            case 5 -> tellTimer(person);
            case 6 -> {
                long ms = clock + random.nextInt(100) - 20;
                same("time(" + person + ", " + ms + ")", x.time(person, ms), model.time(person, ms));
            }
            case 7 -> {
                int i = random.nextInt(places * 3 + 2) - 1;
                same("save(" + person + ", " + i + ")", x.save(person, i), model.save(person, i));
            }
            default -> same("rows()", x.rows(), model.rows());
        }
    }

    private void tellTimer(int person) {
        long ms = clock + random.nextInt(50) - 10;
        boolean on = random.nextBoolean();
        clock = Math.max(clock, ms);
        same("timer(" + person + ", " + ms + ", " + on + ")", x.timer(person, ms, on), model.timer(person, ms, on));
    }

    private void growOne(int kind) {
        int person = somePerson();
        int other = somePerson();
        if (kind < 86) {
            same("person()", x.person(), model.person());
        } else if (kind < 90) {
            same("join(" + person + ", " + other + ")", x.join(person, other), model.join(person, other));
        } else {
            loadText(person);
        }
    }

    private void loadText(int person) {
        StringBuilder text = new StringBuilder(model.helps(person) < 0 ? "." : model.saved(person));
        int changes = random.nextInt(3);
        for (int i = 0; i < changes; i++) {
            spoil(text);
        }
        if (text.length() > 100) {
            return;
        }
        for (int i = 0; i < text.length() && calls < CALLS; i++) {
            int u = text.charAt(i);
            same("unit(" + u + ")", x.unit(u), model.unit(u));
        }
        if (calls < CALLS) {
            same("load() of " + text, x.load(), model.load());
        }
    }

    private void spoil(StringBuilder text) {
        String units = "().0123456789 /:";
        char c = units.charAt(random.nextInt(units.length()));
        int i = random.nextInt(text.length() + 1);
        int how = random.nextInt(3);
        if (how == 0 || i == text.length()) {
            text.insert(i, c);
        } else if (how == 1) {
            text.setCharAt(i, c);
        } else if (text.length() > 1) {
            text.deleteCharAt(i);
        }
    }
}
