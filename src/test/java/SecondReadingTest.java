import java.util.Random;
import java.util.Set;
import java.util.TreeSet;

/**
 * All promises and Terms: any calls on the class and on a second reading of the document, answer by answer and
 * STATUS by STATUS. The numbers are mostly such as the call takes, and often at or just beyond their bounds.
 */
final class SecondReadingTest {
    private static final int MOST_CALLS = 512;
    private static final int[] ENDS = {Integer.MIN_VALUE, Integer.MIN_VALUE + 1, -1000000, -101, -1, 1001, 1000000, Integer.MAX_VALUE};
    /** The STATUSES of each call, as its promise tells them. */
    private static final String[] STATUSES = {"station 0 1 2", "window 0 1", "ahead 0 1", "fit 0 1", "speed 0 1", "cast 0 1 2",
        "bottle 0 1 2 3", "fail 0 1 3", "hand 0 1 2", "feed 0 1 2", "lines 0 1 3", "does 0 1 2 3", "rest 0 1 2", "use 0 1 3",
        "takeUp 0 1 3", "readings 0 1 10 11 12 3", "act 0 1", "sheet 0 1", "cell 0 1 10 12", "none 0 1 10 11 12",
        "forge 0 1 10 11 12 13 14 15"};
    private static final Set<String> LEFT = new TreeSet<>();
    private static final String[] QUESTIONS = {"fault", "plan", "planned", "stationTold", "castTold", "bottleTold", "sample", "box",
        "water", "mean", "count", "trace"};
    private static final String[] PIECES = {"take", "when", "and", "or", "not", "station", "depth", "left", "hour", "<", "=", "(", ")",
        ";", "0", "7", "11", "1000", "x", " ", "takes", "#", "\u0000", "\u00ff"};

    /** What a run makes most of: each has other rooms that become full. */
    private enum Bent { ANY, PLANS, WATER, TEXTS, READINGS, HOST, FULL }

    private final Random r;
    private final Bent bent;
    private final int seed;
    private final WaterCruise w = new WaterCruise();
    private final SecondReading due = new SecondReading();
    private int made = 0;

    private SecondReadingTest(int seed) {
        this.seed = seed;
        this.r = new Random(seed);
        this.bent = Bent.values()[seed % Bent.values().length];
    }

    private int from(int least, int most) {
        switch (r.nextInt(30)) {
            case 0: return ENDS[r.nextInt(ENDS.length)];
            case 1: return least - 1;
            case 2: return most + 1;
            case 3: return least;
            case 4: return most;
            default: return most < least ? least : least + r.nextInt(most - least + 1);
        }
    }

    private int number(int count) {
        return from(0, due.count(count) - 1);
    }

    /** Mostly a CAST of this KIND, if there is one. */
    private int castOf(int kind) {
        int cast = number(1);
        for (int i = 0; i < 8 && r.nextInt(12) > 0 && due.castTold(cast, 0) != kind; i++) {
            cast = number(1);
        }
        return cast;
    }

    private int bottleOf(int cast) {
        return from(0, due.castTold(cast, 4) - 1);
    }

    private void make(String name, Object... arguments) {
        StringBuilder text = new StringBuilder(name).append('(');
        for (int i = 0; i < arguments.length; i++) {
            text.append(i == 0 ? "" : ", ").append(arguments[i]);
        }
        make(Call.make(text.append(')').toString()));
    }

    private void make(Call call) {
        if (made < MOST_CALLS) {
            made++;
            Check.due("run " + seed + ", call " + made + ", " + call.text, call.on(w), call.on(due));
            String name = call.text.substring(0, call.text.indexOf('('));
            if (!Set.of(QUESTIONS).contains(name)) {
                LEFT.add(name + " " + due.status());
            }
        }
        if (made < MOST_CALLS && r.nextInt(3) > 0) {
            made++;
            Check.due("run " + seed + ", call " + made + ", status behind " + call.text, w.status(), due.status());
        }
    }

    // ---- texts

    private String condition(int deep) {
        switch (deep <= 0 ? 4 : r.nextInt(6)) {
            case 0: return "not " + condition(deep - 1);
            case 1: return "(" + condition(deep - 1) + ")";
            case 2: case 3: return condition(deep - 1) + (r.nextBoolean() ? " and " : " or ") + condition(deep - 1);
            default: return comparison();
        }
    }

    /** NOTS in one another, about as many as there may be. */
    private String nested() {
        StringBuilder open = new StringBuilder();
        StringBuilder close = new StringBuilder();
        for (int i = 4 + r.nextInt(4); i > 0; i--) {
            boolean isNot = r.nextBoolean();
            open.append(isNot ? "not " : "(");
            close.append(isNot ? "" : ")");
        }
        return open + comparison() + close;
    }

    private String comparison() {
        int which = r.nextInt(4);
        int number = new int[] {r.nextInt(4), 10 * r.nextInt(13), 1 + r.nextInt(10), r.nextInt(8)}[which];
        return new String[] {"station", "depth", "left", "hour"}[which] + (r.nextInt(3) > 0 ? "<" : "=") + number;
    }

    private String text() {
        StringBuilder text = new StringBuilder();
        int lines = r.nextInt(8) == 0 ? 11 + r.nextInt(4) : 1 + r.nextInt(3);
        for (int i = 0; i < lines; i++) {
            text.append("take ").append(from(1, 10) & 4095);
            if (lines < 5 && r.nextInt(3) > 0) {
                text.append(" when ").append(r.nextInt(4) == 0 ? nested() : condition(r.nextInt(5)));
            }
            text.append(r.nextBoolean() ? ";" : " ; ");
        }
        for (int i = r.nextInt(4) == 0 ? 1 + r.nextInt(3) : 0; i > 0; i--) {
            spoil(text);
        }
        return text.substring(0, Math.min(160, text.length()));
    }

    /** Puts, leaves out or exchanges a few bytes, or exchanges a whole word for another. */
    private void spoil(StringBuilder text) {
        int at = r.nextInt(text.length() + 1);
        int to = Math.min(text.length(), at + r.nextInt(4));
        if (r.nextBoolean()) {
            while (at > 0 && text.charAt(at - 1) != ' ') {
                at--;
            }
            to = text.indexOf(" ", at) < 0 ? text.length() : text.indexOf(" ", at);
        }
        text.replace(at, r.nextInt(4) == 0 ? at : to, r.nextInt(4) == 0 ? "" : PIECES[r.nextInt(PIECES.length)]);
        text.append(text.length() == 0 ? ";" : "");
    }

    private void lines() {
        for (String feed : Check.feeds(text())) {
            make(Call.make(feed));
        }
        make("lines", number(2));
        make("fault", from(0, 1));
        make("fault", 1);
    }

    // ---- calls

    private void change() {
        switch (r.nextInt(22)) {
            case 0: make("station", from(-50, 50), from(-50, 50), from(1, 900), from(1, r.nextBoolean() ? 99 : 2)); break;
            case 1: make("window", number(0), from(0, 60), from(20, 200), from(0, 2)); break;
            case 2: make("ahead", number(0), number(0)); break;
            case 3: make("fit", from(0, r.nextBoolean() ? 200 : 30), from(0, r.nextBoolean() ? 200 : 40), r.nextInt(3) > 0); break;
            case 4: make("speed", from(1, 20)); break;
            case 5: cast(); break;
            case 6: bottle(); break;
            case 7: fail(); break;
            case 8: make("hand", from(0, 9)); break;
            case 9: make("feed", from(1, 8), r.nextLong()); break;
            case 10: make("lines", number(2)); break;
            case 11: make("does", number(1)); break;
            case 12: make("rest", r.nextInt(3) == 0 ? from(0, Math.min(1000, 12000 - due.count(4))) : from(0, 90)); break;
            case 13: make("use", number(3), r.nextBoolean()); break;
            case 14: make("takeUp", castOf(4)); break;
            case 15: make("readings", number(1), from(0, 3)); break;
            case 16: make("act", number(1), from(0, 3), r.nextBoolean() ? r.nextInt() : r.nextInt(100)); break;
            case 17: make("sheet", from(0, 3), from(-1, 2), from(0, r.nextInt(4) == 0 ? 100 : 8)); break;
            case 18: make("cell", from(0, 3), from(0, 9), from(-1000, 1000)); break;
            case 19: make("none", from(0, 3), from(0, 9)); break;
            case 20: make("forge", from(0, 6), from(-4, 8), from(-100, 100)); break;
            default: make("forge", from(0, 6), from(-100, 100), from(-30, 40)); break;
        }
    }

    private void cast() {
        int station = number(0);
        int kind = bent == Bent.WATER && r.nextInt(4) > 0 ? 1 : from(0, 5);
        make("cast", kind, station, from(1, Math.max(1, due.stationTold(station, 2))));
    }

    private void bottle() {
        int cast = castOf(1);
        int bottles = due.castTold(cast, 4);
        int deepest = bottles > 0 ? due.bottleTold(cast, bottles - 1, 0) : due.castTold(cast, 2);
        make("bottle", cast, r.nextInt(3) == 0 ? from(0, deepest) : from(Math.max(0, deepest - 40), deepest));
    }

    private void fail() {
        int cast = castOf(1);
        make("fail", cast, bottleOf(cast));
    }

    private void question() {
        int cast = number(1);
        switch (QUESTIONS[r.nextInt(QUESTIONS.length)]) {
            case "fault": make("fault", from(0, 1)); break;
            case "plan": make("plan", from(0, 2)); break;
            case "planned": make("planned", from(0, due.plan(2) - 1), from(0, 1)); break;
            case "stationTold": make("stationTold", number(0), from(0, 9)); break;
            case "castTold": make("castTold", cast, from(0, 7)); break;
            case "bottleTold":
                cast = castOf(1);
                make("bottleTold", cast, bottleOf(cast), from(0, 3));
                break;
            case "sample": make("sample", number(3), from(0, 9)); break;
            case "box": make("box", from(0, 4), from(0, 11)); break;
            case "water": make("water", number(2), from(0, 1)); break;
            case "mean": make("mean", cast, from(0, 40), from(0, 100), from(0, 3)); break;
            case "count": make("count", from(0, 11)); break;
            default: make("trace", from(0, due.count(7) - 1)); break;
        }
    }

    // ---- runs

    private void begin() {
        int stations = bent == Bent.PLANS ? 3 + r.nextInt(3) : bent == Bent.READINGS ? 2 : r.nextInt(4);
        for (int i = 0; i < stations; i++) {
            int far = bent == Bent.PLANS && r.nextBoolean() ? 50 : 15;
            make("station", from(-far, far), from(-far, far), from(1, r.nextBoolean() ? 900 : 120), from(1, 9));
        }
        for (int i = bent == Bent.WATER ? 5 : r.nextInt(4); i > 0; i--) {
            make("hand", from(0, 9));
            lines();
        }
    }

    private void bentCall() {
        switch (bent) {
            case PLANS:
                make("planned", from(0, due.plan(2) - 1), from(0, 1));
                make("plan", from(0, 2));
                break;
            case WATER:
                cast();
                for (int i = r.nextInt(9); i > 0; i--) {
                    make("bottle", due.count(1) - 1, 8 * i);
                }
                make("does", due.count(1) - 1);
                make("sample", number(3), from(0, 9));
                break;
            case TEXTS:
                lines();
                break;
            case READINGS:
                int sheet = from(0, 3);
                int n = r.nextInt(12);
                make("sheet", sheet, 2, n);
                make("cell", sheet, from(0, n - 1), from(-1000, 1000));
                make("cell", sheet, from(0, n - 1), 8 * r.nextInt(100));
                make("none", sheet, from(0, n - 1));
                make("does", number(1));
                make("readings", number(1), sheet);
                make("mean", number(1), from(0, 40), from(30, 120), from(0, 3));
                break;
            case HOST:
                make("sheet", from(0, 3), from(0, 1), from(0, 8));
                make("cell", from(0, 3), from(0, 7), from(-1000, 1000));
                make("forge", from(2, 3), from(0, 4), from(-100, 100));
                make("forge", from(0, 6), from(-6, 6), r.nextInt(Math.max(1, due.count(1))) - 30 * r.nextInt(2));
                break;
            case FULL:
                for (int i = 0; i < 5; i++) {
                    cast();
                    make("rest", from(900, 1000));
                    make("does", number(1));
                }
                break;
            default:
                break;
        }
    }

    private void run() {
        begin();
        while (made < MOST_CALLS) {
            if (r.nextInt(8) == 0) {
                bentCall();
            }
            if (r.nextInt(5) > 1) {
                change();
            } else {
                question();
            }
        }
    }

    /** Fills every room for SAMPLES: eight HANDS that take one part each of 8 BOTTLES a CAST. */
    private void fullOfSamples() {
        make("station", 0, 0, 900, 1);
        for (int i = 0; i < 8; i++) {
            make("hand", r.nextInt(10));
            make(Call.make(Check.feeds(i % 2 == 0 ? "take 1;" : "take 2;").get(0)));
            make("lines", i);
        }
        for (int c = 0; c < 8; c++) {
            make("cast", 1, 0, 900);
            for (int b = 8; b > 0; b--) {
                make("bottle", c, 100 * b);
            }
            make("does", c);
            make("use", from(0, due.count(3) - 1), r.nextBoolean());
            make("use", from(0, 59), r.nextBoolean());
        }
        Check.due("run " + seed + ", all SAMPLES", due.count(3), 250);
        while (made < MOST_CALLS) {
            int late = r.nextInt(2) == 0 ? from(230, 249) : number(3);
            make("sample", late, from(0, 9));
            make("box", from(0, 4), from(0, 11));
            make("water", number(2), from(0, 1));
            make("bottleTold", from(5, 7), from(0, 7), 3);
        }
    }

    /** Each STATUS of each call has come up, and none that its promise does not tell. */
    private static void statuses() {
        Set<String> told = new TreeSet<>();
        for (String call : STATUSES) {
            String[] words = call.split(" ");
            for (int i = 1; i < words.length; i++) {
                told.add(words[0] + " " + words[i]);
            }
        }
        Check.due("the STATUSES " + LEFT + " are " + told, LEFT.equals(told));
    }

    public static void main(String[] args) {
        for (int seed = 0; seed < 420; seed++) {
            new SecondReadingTest(seed).run();
        }
        for (int seed = 420; seed < 440; seed++) {
            new SecondReadingTest(seed).fullOfSamples();
        }
        statuses();
        Check.end();
    }
}
