import java.util.ArrayList;
import java.util.List;

/** An object that some calls were made on, and that no more are made on than the 512 that the document promises. */
final class Replay {
    static final Call STATUS = Call.of("status()");
    private static final int MOST_CALLS = 512;

    private final WaterCruise w = new WaterCruise();
    private int made = 0;

    private Replay() {
    }

    boolean hasRoom(int more) {
        return made + more <= MOST_CALLS;
    }

    int ask(Call call) {
        made++;
        if (made > MOST_CALLS) {
            throw new IllegalStateException("more than 512 calls, at " + call.text);
        }
        return call.on(w);
    }

    int ask(String text) {
        return ask(Call.of(text));
    }

    static Replay of(List<Call> calls) {
        Replay w = new Replay();
        for (Call call : calls) {
            w.ask(call);
        }
        return w;
    }

    /** Asks everything, and makes calls that show what no question tells, behind both runs. */
    static void compare(String name, List<Call> without, List<Call> with, boolean faults, String what) {
        int room = MOST_CALLS - 1 - Math.max(without.size(), with.size());
        List<Call> questions = allQuestions(of(without), faults);
        for (int from = 0; from < questions.size(); from += room) {
            List<Call> some = questions.subList(from, Math.min(questions.size(), from + room));
            compareBehind(name, without, with, some, false, what);
        }
        for (List<Call> more : laterCalls(of(without))) {
            compareBehind(name, without, with, more.subList(0, Math.min(more.size(), room / 2)), true, what);
        }
    }

    private static void compareBehind(String name, List<Call> without, List<Call> with, List<Call> more,
        boolean statuses, String what) {
        Replay a = of(without);
        Replay b = of(with);
        for (Call call : more) {
            Check.due(name + call.text + " behind " + what, b.ask(call), a.ask(call));
            if (statuses) {
                Check.due(name + call.text + " behind " + what + ", status", b.ask(STATUS), a.ask(STATUS));
            }
        }
    }

    private static void put(List<Call> list, String... texts) {
        for (String text : texts) {
            list.add(Call.of(text));
        }
    }

    /** f(a, 0), f(a, 1) and so on, below n. */
    private static void putAll(List<Call> list, String from, int n) {
        for (int i = 0; i < n; i++) {
            put(list, from + i + ")");
        }
    }

    private static List<Call> allQuestions(Replay w, boolean faults) {
        List<Call> list = new ArrayList<>();
        putAll(list, "count(", 12);
        putAll(list, "plan(", 3);
        if (faults) {
            putAll(list, "fault(", 2);
        }
        int planned = w.ask("plan(2)");
        for (int i = 0; i < planned; i++) {
            putAll(list, "planned(" + i + ", ", 2);
        }
        int stations = w.ask("count(0)");
        for (int i = 0; i < stations; i++) {
            putAll(list, "stationTold(" + i + ", ", 10);
        }
        int casts = w.ask("count(1)");
        for (int i = 0; i < casts; i++) {
            putAll(list, "castTold(" + i + ", ", 8);
            int bottles = w.ask("castTold(" + i + ", 4)");
            for (int j = 0; j < bottles; j++) {
                putAll(list, "bottleTold(" + i + ", " + j + ", ", 4);
            }
            int readings = w.ask("castTold(" + i + ", 6)");
            for (int j = 0; j < readings; j++) {
                putAll(list, "mean(" + i + ", " + 10 * j + ", " + 10 * j + ", ", 4);
            }
        }
        int samples = w.ask("count(3)");
        for (int i = 0; i < samples; i++) {
            putAll(list, "sample(" + i + ", ", 10);
        }
        for (int i = 0; i < 5 && samples > 0; i++) {
            putAll(list, "box(" + i + ", ", 12);
        }
        int hands = w.ask("count(2)");
        for (int i = 0; i < hands; i++) {
            putAll(list, "water(" + i + ", ", 2);
        }
        putAll(list, "trace(", w.ask("count(7)"));
        return list;
    }

    /** What no question tells: THE TAPE, the LINES, the SHEETS, and whether there is room. */
    private static List<List<Call>> laterCalls(Replay w) {
        List<List<Call>> all = new ArrayList<>();
        List<Call> read = new ArrayList<>();
        put(read, "hand(9)", "lines(0)", "fault(0)", "fault(1)", "count(6)", "count(11)");
        putParting(read, w);
        all.add(read);
        List<Call> part = new ArrayList<>();
        putParting(part, w);
        all.add(part);
        for (int i = 0; i < 4; i++) {
            List<Call> shorts = new ArrayList<>();
            putAll(shorts, "forge(3, ", ", " + i + ")", 5);
            putAll(shorts, "forge(2, ", ", " + i + ")", 101);
            all.add(shorts);
            List<Call> cells = new ArrayList<>();
            put(cells, "none(" + i + ", 0)");
            putAll(cells, "cell(" + i + ", ", ", 1)", 101);
            all.add(cells);
            all.add(floats(w, i));
        }
        all.add(rooms(w));
        return all;
    }

    private static void putAll(List<Call> list, String ahead, String behind, int n) {
        for (int i = 0; i < n; i++) {
            put(list, ahead + i + behind);
        }
    }

    private static void putParting(List<Call> list, Replay w) {
        int cast = w.ask("count(1)");
        int samples = w.ask("count(3)");
        put(list, "cast(1, 0, 1)", "bottle(" + cast + ", 1)", "bottle(" + cast + ", 0)", "does(" + cast + ")");
        for (int i = 0; i < cast; i++) {
            put(list, "does(" + i + ")");
        }
        put(list, "count(3)");
        for (int i = samples; i < samples + 16; i++) {
            put(list, "sample(" + i + ", 0)", "sample(" + i + ", 3)", "sample(" + i + ", 9)");
        }
    }

    private static List<Call> floats(Replay w, int sheet) {
        List<Call> list = new ArrayList<>();
        int casts = w.ask("count(1)");
        int deepest = 0;
        for (int i = 1; i < casts; i++) {
            deepest = w.ask("castTold(" + i + ", 2)") > w.ask("castTold(" + deepest + ", 2)") ? i : deepest;
        }
        put(list, "does(" + deepest + ")", "readings(" + deepest + ", " + sheet + ")");
        for (int i = 0; i < 40; i++) {
            putAll(list, "mean(" + deepest + ", " + 10 * i + ", " + 10 * i + ", ", 4);
        }
        return list;
    }

    private static List<Call> rooms(Replay w) {
        List<Call> list = new ArrayList<>();
        int casts = w.ask("count(1)");
        put(list, "act(0, 3, 5)", "station(1, 1, 1, 1)", "cast(0, 0, 1)", "hand(0)", "fit(0, 0, true)", "rest(0)", "feed(1, 32)");
        for (int i = 0; i < casts; i++) {
            put(list, "bottle(" + i + ", 0)", "fail(" + i + ", 0)", "takeUp(" + i + ")");
        }
        put(list, "ahead(0, 1)", "ahead(1, 0)", "speed(5)", "use(0, false)", "window(0, 0, 200, 0)", "plan(0)", "plan(1)");
        return list;
    }
}
