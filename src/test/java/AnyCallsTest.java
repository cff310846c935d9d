import java.util.ArrayList;
import java.util.List;
import java.util.Random;

/**
 * Runs of any calls with any arguments: none throws, a refused call changes nothing but the STATUS (and
 * THE TAPE, if its text has a FAULT), a question changes nothing at all, and the same calls give the same answers.
 */
final class AnyCallsTest {
    /** With a status() behind each of them, and the questions of a comparison, no object gets more than 512. */
    private static final int CALLS = 240;
    private static final int[] EDGES = {Integer.MIN_VALUE, -1001, -101, -51, -1, 0, 1, 2, 3, 4, 5, 6, 7, 8, 9, 10, 12,
        30, 50, 60, 99, 100, 101, 200, 201, 250, 900, 901, 1000, 1001, 12000, Integer.MAX_VALUE};
    private static final String[] TEXTS = {"take 1;", "take 3 when left<8;take 2;", "take 10 when not station=1;",
        "take 4 when (depth<50 or hour=2) and left=10;take 1 when hour<9;", "take 0;", "take", ";", "take 2 when left;"};

    private final Random r;
    private final List<Call> all = new ArrayList<>();
    /** The calls that may change more than the STATUS. */
    private final List<Call> done = new ArrayList<>();

    private AnyCallsTest(long seed) {
        r = new Random(seed);
    }

    private int any(int most) {
        switch (r.nextInt(12)) {
            case 0: return EDGES[r.nextInt(EDGES.length)];
            case 1: return most + r.nextInt(3) - 1;
            default: return r.nextInt(most + 1);
        }
    }

    private static String call(String name, Object... arguments) {
        StringBuilder text = new StringBuilder(name).append('(');
        for (int i = 0; i < arguments.length; i++) {
            text.append(i == 0 ? "" : ", ").append(arguments[i]);
        }
        return text.append(')').toString();
    }

    private String change(int which) {
        switch (which) {
            case 0: return call("station", any(100) - 50, any(100) - 50, any(900), any(99));
            case 1: return call("window", any(4), any(100), any(200), any(2));
            case 2: return call("ahead", any(4), any(4));
            case 3: return call("fit", any(200), any(200), r.nextBoolean());
            case 4: return call("speed", any(20));
            case 5: return call("cast", any(5), any(4), any(300));
            case 6: return call("bottle", any(9), any(60));
            case 7: return call("fail", any(9), any(3));
            case 8: return call("hand", any(9));
            case 9: return call("feed", any(8), r.nextLong());
            case 10: return call("lines", any(3));
            case 11: return call("does", any(9));
            case 12: return call("rest", any(100));
            case 13: return call("use", any(19), r.nextBoolean());
            case 14: return call("takeUp", any(9));
            case 15: return call("readings", any(9), any(3));
            case 16: return call("act", any(9), any(3), r.nextInt());
            case 17: return call("sheet", any(3), any(3) - 1, any(12));
            case 18: return call("cell", any(3), any(12), any(2000) - 1000);
            case 19: return call("none", any(3), any(12));
            default: return call("forge", any(6), any(12) - 4, any(200) - 100);
        }
    }

    private String question() {
        switch (r.nextInt(12)) {
            case 0: return call("fault", any(2));
            case 1: return call("plan", any(3));
            case 2: return call("planned", any(8), any(2));
            case 3: return call("stationTold", any(8), any(10));
            case 4: return call("castTold", any(9), any(8));
            case 5: return call("bottleTold", any(9), any(3), any(4));
            case 6: return call("sample", any(19), any(10));
            case 7: return call("box", any(5), any(12));
            case 8: return call("water", any(3), any(2));
            case 9: return call("mean", any(9), any(60), any(120), any(4));
            case 10: return call("count", any(12));
            default: return call("trace", any(9));
        }
    }

    private void put(String name, Object... arguments) {
        all.add(Call.of(call(name, arguments)));
    }

    /** Something of each sort, so that what follows has something to change. */
    private void begin() {
        for (int i = 0; i < 4; i++) {
            put("station", r.nextInt(41) - 20, r.nextInt(41) - 20, 300 + r.nextInt(601), 1 + r.nextInt(99));
        }
        for (int i = 0; i < 3; i++) {
            put("hand", r.nextInt(10));
            putLines(TEXTS[r.nextInt(4)], i);
        }
        for (int cast = 0; cast < 8; cast++) {
            put("cast", r.nextBoolean() ? 1 : r.nextInt(6), r.nextInt(4), 60 + r.nextInt(241));
            for (int i = r.nextInt(4); i > 0; i--) {
                put("bottle", cast, 10 * i);
            }
        }
        for (int i = 0; i < 4; i++) {
            put("does", r.nextInt(8));
            put("sheet", i, r.nextInt(3), r.nextInt(13));
        }
    }

    private void putLines(String text, int hand) {
        for (String feed : Check.feeds(text)) {
            all.add(Call.of(feed));
        }
        put("lines", hand);
    }

    private void choose() {
        begin();
        while (all.size() < CALLS) {
            int which = r.nextInt(26);
            if (which < 21) {
                all.add(Call.of(change(which)));
            } else if (which < 23) {
                putLines(TEXTS[r.nextInt(TEXTS.length)], any(3));
            } else {
                all.add(Call.of(question()));
            }
        }
    }

    private static boolean isStatus(int status) {
        return status >= 0 && status <= 3 || status >= 10 && status <= 15;
    }

    private static boolean isQuestion(Call call) {
        return call.text.matches("(fault|plan|planned|stationTold|castTold|bottleTold|sample|box|water|mean|count|trace)\\(.*");
    }

    private void run(String name) {
        choose();
        Replay w = Replay.of(new ArrayList<>());
        long sum = 0;
        int statusBefore = 0;
        for (Call call : all.subList(0, CALLS)) {
            int answer = w.ask(call);
            int status = w.ask(Replay.STATUS);
            sum = (sum * 31 + answer) * 31 + status;
            Check.due(name + call.text + " leaves a status", isStatus(status));
            if (isQuestion(call)) {
                Check.due(name + call.text + " leaves the status", status, statusBefore);
            } else if (status != 0) {
                Check.due(name + call.text + " refused", answer, -1);
            }
            if (!isQuestion(call) && (status == 0 || status == 3 && call.text.startsWith("lines("))) {
                done.add(call);
            }
            statusBefore = status;
        }
        Check.due(name + "minute", w.ask("count(4)") <= 12000 && w.ask("count(3)") <= 250 && w.ask("count(7)") <= 50);
        Replay again = Replay.of(new ArrayList<>());
        long sumAgain = 0;
        for (Call call : all.subList(0, CALLS)) {
            sumAgain = (sumAgain * 31 + again.ask(call)) * 31 + again.ask(Replay.STATUS);
        }
        Check.due(name + "again", sum == sumAgain);
        Replay.compare(name, done, all.subList(0, CALLS), true, "any calls");
    }

    public static void main(String[] args) {
        for (int seed = 0; seed < 300; seed++) {
            new AnyCallsTest(seed).run("run " + seed + ": ");
        }
        Check.end();
    }
}
