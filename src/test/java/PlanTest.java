import java.util.Random;

/** Promises 19 and 20 (and 2 to 7, 14 as far as they shape THE PLAN) against every row there is. */
final class PlanTest {
    private final int[][] told;
    private final int[] lasts;
    private final boolean[] fit;
    private final int speed;
    private int worth = 0;
    private int end = 0;
    private int[] row = new int[0];
    private int[] hours = new int[0];

    /** told: x, y, worth, from, to, light, ahead. */
    private PlanTest(int[][] told, int[] lasts, boolean[] fit, int speed) {
        this.told = told;
        this.lasts = lasts;
        this.fit = fit;
        this.speed = speed;
        tryAll(new int[0]);
    }

    private void tryAll(int[] tried) {
        weigh(tried);
        for (int s = 0; s < told.length; s++) {
            boolean isIn = false;
            for (int t : tried) {
                isIn |= t == s;
            }
            if (!isIn) {
                int[] longer = java.util.Arrays.copyOf(tried, tried.length + 1);
                longer[tried.length] = s;
                tryAll(longer);
            }
        }
    }

    private void weigh(int[] tried) {
        int x = 0;
        int y = 0;
        int hour = 0;
        int sum = 0;
        int[] begins = new int[tried.length];
        for (int i = 0; i < tried.length; i++) {
            int s = tried[i];
            for (int j = i + 1; j < tried.length; j++) {
                if ((told[s][6] >> tried[j] & 1) == 1) {
                    return;
                }
            }
            int way = Math.abs(told[s][0] - x) + Math.abs(told[s][1] - y);
            hour += (int) Math.ceil(way / (double) speed);
            while (hour <= 200 && !mayBegin(s, hour)) {
                hour++;
            }
            if (hour > 200) {
                return;
            }
            begins[i] = hour;
            hour += lasts[s];
            x = told[s][0];
            y = told[s][1];
            sum += told[s][2];
        }
        // Rows come in the order of their STATIONS, so a like one that comes later is no better.
        if (sum > worth || sum == worth && hour < end) {
            worth = sum;
            end = hour;
            row = tried;
            hours = begins;
        }
    }

    private boolean mayBegin(int s, int hour) {
        for (int h = hour; h < hour + lasts[s]; h++) {
            if (h > 200 || !fit[h] || h < told[s][3] || h > told[s][4]) {
                return false;
            }
        }
        boolean light = hour % 24 >= 6 && hour % 24 <= 17;
        return told[s][5] == 0 || light == (told[s][5] == 1);
    }

    private void compare(String run, WaterCruise w) {
        Check.due(run + " plan(0)", w.plan(0), worth);
        Check.due(run + " plan(1)", w.plan(1), end);
        Check.due(run + " plan(2)", w.plan(2), row.length);
        for (int i = 0; i < row.length; i++) {
            Check.due(run + " planned(" + i + ", 0)", w.planned(i, 0), row[i]);
            Check.due(run + " planned(" + i + ", 1)", w.planned(i, 1), hours[i]);
        }
        Check.due(run + " planned behind the last", w.planned(row.length, 0), -1);
    }

    private static void anyRun(String run, Random r) {
        WaterCruise w = new WaterCruise();
        int n = r.nextInt(7);
        int range = new int[] {2, 10, 50}[r.nextInt(3)];
        int worths = new int[] {1, 3, 99}[r.nextInt(3)];
        int[][] told = new int[n][];
        boolean[] fit = new boolean[201];
        java.util.Arrays.fill(fit, true);
        for (int i = 0; i < n; i++) {
            told[i] = new int[] {r.nextInt(2 * range + 1) - range, r.nextInt(2 * range + 1) - range,
                1 + r.nextInt(worths), 0, 200, 0, 0};
            w.station(told[i][0], told[i][1], 900, told[i][2]);
        }
        int speed = r.nextInt(3) == 0 ? 5 : 1 + r.nextInt(20);
        w.speed(speed);
        int[] minutes = new int[n];
        for (int step = 0; step < 6; step++) {
            shape(w, r, told, fit, minutes);
            int[] lasts = new int[n];
            for (int i = 0; i < n; i++) {
                lasts[i] = Math.max(1, (minutes[i] + 59) / 60);
                Check.due(run + " stationTold(" + i + ", 8)", w.stationTold(i, 8), lasts[i]);
            }
            new PlanTest(told, lasts, fit, speed).compare(run + " step " + step, w);
        }
    }

    private static void shape(WaterCruise w, Random r, int[][] told, boolean[] fit, int[] minutes) {
        int n = told.length;
        for (int k = 0; k < 4 && n > 0; k++) {
            int i = r.nextInt(n);
            int j = r.nextInt(n);
            int from = r.nextInt(40);
            switch (r.nextInt(5)) {
                case 0:
                    told[i][3] = from;
                    told[i][4] = Math.min(200, from + r.nextInt(40));
                    told[i][5] = r.nextInt(3);
                    w.window(i, told[i][3], told[i][4], told[i][5]);
                    break;
                case 1:
                    told[j][6] |= i == j ? 0 : 1 << i;
                    w.ahead(i, j);
                    break;
                case 2:
                    boolean is = r.nextInt(4) == 0;
                    int to = Math.min(200, from + r.nextInt(8));
                    java.util.Arrays.fill(fit, from, to + 1, is);
                    w.fit(from, to, is);
                    break;
                case 3:
                    if (w.cast(4, i, 0) >= 0) {
                        minutes[i] += 65;
                    }
                    break;
                default:
                    if (w.count(1) > 0) {
                        int cast = r.nextInt(w.count(1));
                        minutes[w.castTold(cast, 1)] -= w.does(cast) >= 0 ? 65 : 0;
                    }
                    break;
            }
        }
    }

    private static void eightStations() {
        Random r = new Random(8);
        WaterCruise w = new WaterCruise();
        int[][] told = new int[8][];
        int[] lasts = new int[8];
        boolean[] fit = new boolean[201];
        java.util.Arrays.fill(fit, true);
        for (int i = 0; i < 8; i++) {
            told[i] = new int[] {r.nextInt(101) - 50, r.nextInt(101) - 50, 1 + r.nextInt(9), 0, 150, i % 3, 0};
            lasts[i] = 1;
            w.station(told[i][0], told[i][1], 900, told[i][2]);
            w.window(i, 0, 150, i % 3);
        }
        new PlanTest(told, lasts, fit, 5).compare("eight", w);
        w.speed(2);
        new PlanTest(told, lasts, fit, 2).compare("eight, slower", w);
    }

    /** A row that comes later, but ends in the same HOUR since it waits less, gives way to the lesser one. */
    private static void lesserRowOfLikeEnds() {
        WaterCruise w = new WaterCruise();
        w.station(20, 0, 10, 5);
        w.station(1, 0, 10, 5);
        w.station(10, 0, 10, 5);
        w.window(2, 50, 60, 0);
        Check.due("like ends, end", w.plan(1), 51);
        Check.due("like ends, 0", w.planned(0, 0), 0);
        Check.due("like ends, 1", w.planned(1, 0), 1);
        Check.due("like ends, 2", w.planned(2, 0), 2);
        Check.due("like ends, hour", w.planned(2, 1), 50);
    }

    /** The edges: the last HOUR, a WINDOW as long as the STATION LASTS, light at 6 and 17 but not at 18. */
    private static void edges() {
        WaterCruise w = new WaterCruise();
        Check.due("no plan", w.plan(0), 0);
        Check.due("no plan ends", w.plan(1), 0);
        w.station(0, 0, 900, 7);
        Check.due("begins at once", w.planned(0, 1), 0);
        Check.due("ends behind", w.plan(1), 1);
        w.window(0, 200, 200, 0);
        Check.due("last hour", w.planned(0, 1), 200);
        Check.due("behind the last hour", w.plan(1), 201);
        w.cast(4, 0, 1);
        Check.due("two hours do not fit", w.plan(2), 0);
        w.window(0, 199, 200, 0);
        Check.due("two hours fit", w.planned(0, 1), 199);
        w.fit(200, 200, false);
        Check.due("one is not fit", w.plan(2), 0);
        w.fit(200, 200, true);
        w.window(0, 0, 200, 1);
        Check.due("light from 6", w.planned(0, 1), 6);
        w.window(0, 17, 200, 1);
        Check.due("light at 17, dark behind", w.planned(0, 1), 17);
        w.window(0, 18, 200, 1);
        Check.due("light from 30", w.planned(0, 1), 30);
        w.window(0, 5, 200, 2);
        Check.due("dark at 5", w.planned(0, 1), 5);
        w.window(0, 6, 200, 2);
        Check.due("dark from 18", w.planned(0, 1), 18);
        Check.due("plan(3)", w.plan(3), -1);
        Check.due("plan(-1)", w.plan(-1), -1);
        Check.due("planned(0, 2)", w.planned(0, 2), -1);
        Check.due("planned(0, -1)", w.planned(0, -1), -1);
        Check.due("planned(-1, 0)", w.planned(-1, 0), -1);
        Check.due("planned(1, 0)", w.planned(1, 0), -1);
    }

    /** STATIONS that must be AHEAD of one another can't be in one row; the worthier one is. */
    private static void aheadOfOneAnother() {
        WaterCruise w = new WaterCruise();
        w.station(0, 0, 10, 3);
        w.station(5, 0, 10, 4);
        w.ahead(0, 1);
        w.ahead(1, 0);
        Check.due("worthier", w.plan(0), 4);
        Check.due("worthier alone", w.plan(2), 1);
        Check.due("worthier it is", w.planned(0, 0), 1);
    }

    public static void main(String[] args) {
        edges();
        lesserRowOfLikeEnds();
        aheadOfOneAnother();
        eightStations();
        Random r = new Random(19);
        for (int i = 0; i < 1500; i++) {
            anyRun("run " + i, r);
        }
        Check.end();
    }
}
