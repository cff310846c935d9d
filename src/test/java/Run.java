import java.nio.charset.StandardCharsets;
import java.util.ArrayList;
import java.util.List;

/**
 * A run of calls that holds to one sentence of the document. Each answer is looked at twice: on one object
 * that gets all the calls, questions and refused ones too, and on a new one that gets the done ones alone.
 * No object gets more than the 512 calls that the document promises.
 */
final class Run {
    private static final int MOST_CALLS = 512;
    private static final Call STATUS = Call.of("status()");

    private final String base;
    private String name;
    private final List<Call> calls = new ArrayList<>();
    private final Counted live = new Counted();

    private static final class Counted {
        private final WaterCruise w = new WaterCruise();
        private int made = 0;

        boolean hasRoom(int more) {
            return made + more <= MOST_CALLS;
        }

        int ask(Call call) {
            made++;
            if (made > MOST_CALLS) {
                throw new IllegalStateException("more than 512 calls, at " + call.text);
            }
            return call.on(w);
        }

        int ask(String text) {
            return ask(Call.of(text));
        }
    }

    /** part and sentence say what the run holds to. */
    Run(String part, String sentence) {
        Sentences.hold(part, sentence);
        base = part + ", \"" + sentence + "\": ";
        name = base;
    }

    /** Calls that are done; what they answer is not looked at. */
    Run make(String... texts) {
        for (String text : texts) {
            Call call = Call.of(text);
            calls.add(call);
            Counted w = replay(calls);
            Check.due(name + text + ", status", w.ask(STATUS), 0);
            if (live.hasRoom(1)) {
                live.ask(call);
            }
        }
        return this;
    }

    /** A call that is done and answers so. */
    Run done(String text, int answer) {
        Call call = Call.of(text);
        lookAt(replay(calls), call, answer, 0, "");
        lookAt(live, call, answer, 0, " (among all)");
        calls.add(call);
        return this;
    }

    /** A question: it answers so, and leaves the STATUS. */
    Run asks(String text, int answer) {
        Call call = Call.of(text);
        Counted fresh = replay(calls);
        lookAt(fresh, call, answer, replay(calls).ask(STATUS), "");
        if (live.hasRoom(3)) {
            lookAt(live, call, answer, live.ask(STATUS), " (among all)");
        }
        return this;
    }

    /** A call that is refused: it answers -1, has this STATUS and changes nothing else. */
    Run refused(String text, int status) {
        Call call = Call.of(text);
        lookAt(replay(calls), call, -1, status, "");
        lookAt(live, call, -1, status, " (among all)");
        List<Call> with = new ArrayList<>(calls);
        with.add(call);
        compare(calls, with, true, text);
        return this;
    }

    /** A text that is taken as the LINES of a HAND. */
    Run lines(int hand, String text, int answer) {
        feed(text);
        return done("lines(" + hand + ")", answer);
    }

    /** A text with a FAULT: STATUS 3, its kind and place, and nothing changed but THE TAPE, which is empty. */
    Run fault(int hand, String text, int kind, int place) {
        feed(text);
        refusedTape("lines(" + hand + ")", (text.length() + 7) / 8);
        return asks("fault(0)", kind).asks("fault(1)", place).asks("count(6)", 0);
    }

    /** lines() of what the latest calls, so many of them, have fed, which has a FAULT. */
    Run refusedTape(String text, int feeds) {
        Call call = Call.of(text);
        lookAt(replay(calls), call, -1, 3, "");
        lookAt(live, call, -1, 3, " (among all)");
        List<Call> without = new ArrayList<>(calls.subList(0, calls.size() - feeds));
        calls.add(call);
        compare(without, calls, false, text);
        return this;
    }

    /** A text comes onto THE TAPE; what goes wrong from then on is told with it. */
    Run feed(String text) {
        name = base + "behind \"" + text + "\": ";
        byte[] bytes = text.getBytes(StandardCharsets.ISO_8859_1);
        for (int from = 0; from < bytes.length; from += 8) {
            int n = Math.min(8, bytes.length - from);
            long packed = 0;
            for (int i = 0; i < n; i++) {
                packed |= (bytes[from + i] & 255L) << 8 * i;
            }
            make("feed(" + n + ", " + packed + ")");
        }
        return this;
    }

    private void lookAt(Counted w, Call call, int answer, int status, String how) {
        if (w.hasRoom(2)) {
            Check.due(name + call.text + how, w.ask(call), answer);
            Check.due(name + call.text + how + ", status", w.ask(STATUS), status);
        }
    }

    private static Counted replay(List<Call> calls) {
        Counted w = new Counted();
        for (Call call : calls) {
            w.ask(call);
        }
        return w;
    }

    /** Asks everything, and makes calls that show what no question tells, behind both runs. */
    private void compare(List<Call> without, List<Call> with, boolean faults, String what) {
        int room = MOST_CALLS - 1 - Math.max(without.size(), with.size());
        List<Call> questions = allQuestions(replay(without), faults);
        for (int from = 0; from < questions.size(); from += room) {
            List<Call> some = questions.subList(from, Math.min(questions.size(), from + room));
            compareBehind(without, with, some, false, what);
        }
        for (List<Call> more : laterCalls(replay(without))) {
            compareBehind(without, with, more.subList(0, Math.min(more.size(), room / 2)), true, what);
        }
    }

    private void compareBehind(List<Call> without, List<Call> with, List<Call> more, boolean statuses, String what) {
        Counted a = replay(without);
        Counted b = replay(with);
        for (Call call : more) {
            Check.due(name + call.text + " behind " + what, b.ask(call), a.ask(call));
            if (statuses) {
                Check.due(name + call.text + " behind " + what + ", status", b.ask(STATUS), a.ask(STATUS));
            }
        }
    }

    private static void put(List<Call> list, String... texts) {
        for (String text : texts) {
            list.add(Call.of(text));
        }
    }

    /** f(a, 0), f(a, 1) and so on, below n. */
    private static void putAll(List<Call> list, String from, int n) {
        for (int i = 0; i < n; i++) {
            put(list, from + i + ")");
        }
    }

    private static List<Call> allQuestions(Counted w, boolean faults) {
        List<Call> list = new ArrayList<>();
        putAll(list, "count(", 12);
        putAll(list, "plan(", 3);
        if (faults) {
            putAll(list, "fault(", 2);
        }
        int planned = w.ask("plan(2)");
        for (int i = 0; i < planned; i++) {
            putAll(list, "planned(" + i + ", ", 2);
        }
        int stations = w.ask("count(0)");
        for (int i = 0; i < stations; i++) {
            putAll(list, "stationTold(" + i + ", ", 10);
        }
        int casts = w.ask("count(1)");
        for (int i = 0; i < casts; i++) {
            putAll(list, "castTold(" + i + ", ", 8);
            int bottles = w.ask("castTold(" + i + ", 4)");
            for (int j = 0; j < bottles; j++) {
                putAll(list, "bottleTold(" + i + ", " + j + ", ", 4);
            }
            int readings = w.ask("castTold(" + i + ", 6)");
            for (int j = 0; j < readings; j++) {
                putAll(list, "mean(" + i + ", " + 10 * j + ", " + 10 * j + ", ", 4);
            }
        }
        int samples = w.ask("count(3)");
        for (int i = 0; i < samples; i++) {
            putAll(list, "sample(" + i + ", ", 10);
        }
        for (int i = 0; i < 5 && samples > 0; i++) {
            putAll(list, "box(" + i + ", ", 12);
        }
        int hands = w.ask("count(2)");
        for (int i = 0; i < hands; i++) {
            putAll(list, "water(" + i + ", ", 2);
        }
        putAll(list, "trace(", w.ask("count(7)"));
        return list;
    }

    /** What no question tells: THE TAPE, the LINES, the SHEETS, and whether there is room. */
    private static List<List<Call>> laterCalls(Counted w) {
        List<List<Call>> all = new ArrayList<>();
        List<Call> read = new ArrayList<>();
        put(read, "hand(9)", "lines(0)", "fault(0)", "fault(1)", "count(6)", "count(11)");
        putParting(read, w);
        all.add(read);
        List<Call> part = new ArrayList<>();
        putParting(part, w);
        all.add(part);
        for (int i = 0; i < 4; i++) {
            List<Call> shorts = new ArrayList<>();
            putAll(shorts, "forge(3, ", ", " + i + ")", 5);
            putAll(shorts, "forge(2, ", ", " + i + ")", 101);
            all.add(shorts);
            List<Call> cells = new ArrayList<>();
            put(cells, "none(" + i + ", 0)");
            putAll(cells, "cell(" + i + ", ", ", 1)", 101);
            all.add(cells);
            all.add(floats(w, i));
        }
        all.add(rooms(w));
        return all;
    }

    private static void putAll(List<Call> list, String ahead, String behind, int n) {
        for (int i = 0; i < n; i++) {
            put(list, ahead + i + behind);
        }
    }

    private static void putParting(List<Call> list, Counted w) {
        int cast = w.ask("count(1)");
        int samples = w.ask("count(3)");
        put(list, "cast(1, 0, 1)", "bottle(" + cast + ", 1)", "bottle(" + cast + ", 0)", "does(" + cast + ")");
        for (int i = 0; i < cast; i++) {
            put(list, "does(" + i + ")");
        }
        put(list, "count(3)");
        for (int i = samples; i < samples + 16; i++) {
            put(list, "sample(" + i + ", 0)", "sample(" + i + ", 3)", "sample(" + i + ", 9)");
        }
    }

    private static List<Call> floats(Counted w, int sheet) {
        List<Call> list = new ArrayList<>();
        int casts = w.ask("count(1)");
        int deepest = 0;
        for (int i = 1; i < casts; i++) {
            deepest = w.ask("castTold(" + i + ", 2)") > w.ask("castTold(" + deepest + ", 2)") ? i : deepest;
        }
        put(list, "does(" + deepest + ")", "readings(" + deepest + ", " + sheet + ")");
        for (int i = 0; i < 40; i++) {
            putAll(list, "mean(" + deepest + ", " + 10 * i + ", " + 10 * i + ", ", 4);
        }
        return list;
    }

    private static List<Call> rooms(Counted w) {
        List<Call> list = new ArrayList<>();
        int casts = w.ask("count(1)");
        put(list, "act(0, 3, 5)", "station(1, 1, 1, 1)", "cast(0, 0, 1)", "hand(0)", "fit(0, 0, true)", "rest(0)", "feed(1, 32)");
        for (int i = 0; i < casts; i++) {
            put(list, "bottle(" + i + ", 0)", "fail(" + i + ", 0)", "takeUp(" + i + ")");
        }
        put(list, "ahead(0, 1)", "ahead(1, 0)", "speed(5)", "use(0, false)", "window(0, 0, 200, 0)", "plan(0)", "plan(1)");
        return list;
    }
}
