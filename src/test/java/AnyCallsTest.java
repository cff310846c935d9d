import java.util.Random;

/**
 * Runs of any calls with any arguments: none throws, a refused call changes nothing but the STATUS,
 * a question changes nothing at all, and the same calls give the same answers.
 */
final class AnyCallsTest {
    private static final int[] EDGES = {Integer.MIN_VALUE, -1001, -101, -51, -1, 0, 1, 2, 3, 4, 5, 6, 7, 8, 9, 10, 12,
        30, 50, 60, 99, 100, 101, 200, 201, 250, 900, 901, 1000, 1001, 12000, Integer.MAX_VALUE};
    private static final String[] TEXTS = {"take 1;", "take 3 when left<8;take 2;", "take 10 when not station=1;",
        "take 4 when (depth<50 or hour=2) and left=10;take 1 when hour<9;", "take 0;", "take", ";", "take 2 when left;"};

    private final Random r;

    private AnyCallsTest(long seed) {
        r = new Random(seed);
    }

    private int any(int most) {
        switch (r.nextInt(12)) {
            case 0: return EDGES[r.nextInt(EDGES.length)];
            case 1: return most + r.nextInt(3) - 1;
            default: return r.nextInt(most + 1);
        }
    }

    private int change(WaterCruise w, int which) {
        switch (which) {
            case 0: return w.station(any(100) - 50, any(100) - 50, any(900), any(99));
            case 1: return w.window(any(7), any(100), any(200), any(2));
            case 2: return w.ahead(any(7), any(7));
            case 3: return w.fit(any(200), any(200), r.nextBoolean());
            case 4: return w.speed(any(20));
            case 5: return w.cast(any(5), any(7), any(300));
            case 6: return w.bottle(any(29), any(200));
            case 7: return w.fail(any(29), any(7));
            case 8: return w.hand(any(9));
            case 9: return w.feed(any(8), r.nextLong());
            case 10: return w.lines(any(7));
            case 11: return w.does(any(29));
            case 12: return w.rest(any(100));
            case 13: return w.use(any(100), r.nextBoolean());
            case 14: return w.takeUp(any(29));
            case 15: return w.readings(any(29), any(3));
            case 16: return w.act(any(29), any(3), r.nextInt());
            case 17: return w.sheet(any(3), any(3) - 1, any(20));
            case 18: return w.cell(any(3), any(20), any(2000) - 1000);
            case 19: return w.none(any(3), any(20));
            case 20: return w.forge(any(6), any(200) - 100, any(200) - 100);
            default:
                Check.feed(w, TEXTS[r.nextInt(TEXTS.length)]);
                return w.lines(any(7));
        }
    }

    private int ask(WaterCruise w) {
        switch (r.nextInt(12)) {
            case 0: return w.fault(any(2));
            case 1: return w.plan(any(3));
            case 2: return w.planned(any(8), any(2));
            case 3: return w.stationTold(any(8), any(10));
            case 4: return w.castTold(any(30), any(8));
            case 5: return w.bottleTold(any(30), any(8), any(4));
            case 6: return w.sample(any(250), any(10));
            case 7: return w.box(any(5), any(12));
            case 8: return w.water(any(8), any(2));
            case 9: return w.mean(any(30), any(900), any(900), any(4));
            case 10: return w.count(any(12));
            default: return w.trace(any(50));
        }
    }

    private static boolean isStatus(int status) {
        return status >= 0 && status <= 3 || status >= 10 && status <= 15;
    }

    /** Answers a sum over all answers, so that two runs can be compared. */
    private long run(String name, boolean looked) {
        WaterCruise w = new WaterCruise();
        long sum = 0;
        for (int i = 0; i < 512; i++) {
            int which = r.nextInt(26);
            boolean asks = which > 21;
            boolean single = which < 21;
            String before = looked ? Check.snapshot(w) : "";
            int statusBefore = w.status();
            int answer = asks ? ask(w) : change(w, which);
            sum = sum * 31 + answer;
            sum = sum * 31 + w.status();
            if (asks) {
                Check.due(name + " a question leaves the status", w.status(), statusBefore);
            }
            boolean tookTape = which == 10 && w.status() == 3;
            if (looked && (asks || single && w.status() != 0 && !tookTape)) {
                Check.due(name + " call " + i + " of sort " + which + " changes nothing", before.equals(Check.snapshot(w)));
            }
            if (!asks && w.status() != 0) {
                Check.due(name + " refused", answer, -1);
            }
            Check.due(name + " a status", isStatus(w.status()));
        }
        Check.due(name + " fit", w.fit(0, 200, true), 201);
        Check.due(name + " minute", w.count(4) <= 12000 && w.count(3) <= 250 && w.count(7) <= 50);
        return sum;
    }

    public static void main(String[] args) {
        for (int seed = 0; seed < 300; seed++) {
            long first = new AnyCallsTest(seed).run("run " + seed, seed < 60);
            long second = new AnyCallsTest(seed).run("run " + seed, false);
            Check.due("run " + seed + " again", first == second);
        }
        Check.end();
    }
}
