/** The bounds of Terms 1 as far as it tells of STATIONS, HOURS, the ship and THE PLAN, and of promises 1 to 6, 19 to 21. */
final class StationBounds {
    private static final int NO = WaterCruise.NO;

    private StationBounds() {
    }

    private static void promise1NothingAtFirst() {
        Run r = new Run("Promise 1", "No STATIONS, CASTS, HANDS, SAMPLES; all HOURS FIT.");
        for (int what = 0; what < 4; what++) {
            r.asks("count(" + what + ")", 0);
        }
        r.asks("count(10)", 201);
        r.asks("stationTold(0, 0)", NO).asks("castTold(0, 0)", -1).asks("water(0, 0)", -1).asks("sample(0, 0)", -1);
        r.asks("box(0, 0)", -1).asks("mean(0, 0, 0, 2)", NO).asks("bottleTold(0, 0, 0)", -1).asks("planned(0, 0)", -1);
        r.refused("window(0, 0, 200, 0)", 1).refused("does(0)", 1).refused("lines(0)", 1).refused("use(0, false)", 1);
        r.done("station(0, 0, 1, 1)", 0).done("cast(0, 0, 1)", 0).done("hand(0)", 0);
        r.asks("planned(0, 1)", 0);
    }

    private static void terms1StationsEightAtMost() {
        Run r = new Run("Terms 1", "STATIONS (8 at most, numbered from 0)");
        for (int i = 0; i < 7; i++) {
            r.done("station(" + i + ", 0, 1, 1)", i);
        }
        r.asks("stationTold(7, 0)", NO).refused("window(7, 0, 200, 0)", 1).refused("cast(0, 7, 1)", 1);
        r.done("station(7, 0, 1, 1)", 7);
        r.refused("station(8, 0, 1, 1)", 2);
        r.asks("count(0)", 8).asks("stationTold(0, 0)", 0).asks("stationTold(7, 0)", 7);
        r.asks("stationTold(8, 0)", NO).asks("stationTold(-1, 0)", NO).asks("stationTold(MAX, 0)", NO).asks("stationTold(MIN, 0)", NO);
        r.done("window(7, 0, 200, 0)", 1).refused("window(8, 0, 200, 0)", 1);
        r.done("cast(0, 7, 1)", 0).refused("cast(0, 8, 1)", 1);
    }

    /** One number of station(), from least to most; at is where it stands in the call and in stationTold(). */
    private static void stationNumber(String sentence, int at, int least, int most) {
        Run r = new Run("Terms 1", sentence);
        int station = 0;
        for (int v : new int[] {least, least + 1, most - 1, most}) {
            r.done(stationWith(at, "" + v), station);
            r.asks("stationTold(" + station + ", " + at + ")", v);
            station++;
        }
        for (String v : new String[] {"MIN", "" + (least - 1), "" + (most + 1), "MAX"}) {
            r.refused(stationWith(at, v), 1);
        }
        r.asks("count(0)", 4);
    }

    private static String stationWith(int at, String value) {
        String[] numbers = {"0", "0", "1", "1"};
        numbers[at] = value;
        return "station(" + String.join(", ", numbers) + ")";
    }

    private static void terms1NumbersOfStations() {
        stationNumber("have X, Y (-50 .. 50)", 0, -50, 50);
        stationNumber("have X, Y (-50 .. 50)", 1, -50, 50);
        stationNumber("a DEPTH 1 .. 900", 2, 1, 900);
        stationNumber("a WORTH 1 .. 99", 3, 1, 99);
    }

    private static void terms1Window() {
        Run r = new Run("Terms 1", "a WINDOW of HOURS from .. to (0 .. 200; at first all)");
        r.make("station(0, 0, 1, 1)").asks("stationTold(0, 4)", 0).asks("stationTold(0, 5)", 200);
        r.done("window(0, 1, 199, 0)", 1).asks("stationTold(0, 4)", 1).asks("stationTold(0, 5)", 199);
        r.refused("window(0, -1, 200, 0)", 1).refused("window(0, 0, 201, 0)", 1).refused("window(0, -1, -1, 0)", 1);
        r.refused("window(0, 201, 201, 0)", 1).refused("window(0, MIN, 0, 0)", 1).refused("window(0, 0, MAX, 0)", 1);
        r.done("window(0, 0, 200, 0)", 1).asks("stationTold(0, 4)", 0).asks("stationTold(0, 5)", 200);
        r.done("window(0, 0, 0, 0)", 1).asks("stationTold(0, 5)", 0).asks("planned(0, 1)", 0);
        r.done("window(0, 200, 200, 0)", 1).asks("stationTold(0, 4)", 200).asks("planned(0, 1)", 200);
    }

    private static void terms1LightOfStations() {
        Run r = new Run("Terms 1", "a LIGHT 0 any (at first), 1 light, 2 dark");
        r.make("station(0, 0, 1, 1)").asks("stationTold(0, 6)", 0).asks("planned(0, 1)", 0);
        r.refused("window(0, 0, 200, -1)", 1).refused("window(0, 0, 200, 3)", 1);
        r.refused("window(0, 0, 200, MIN)", 1).refused("window(0, 0, 200, MAX)", 1);
        r.done("window(0, 12, 200, 2)", 1).asks("stationTold(0, 6)", 2).asks("planned(0, 1)", 18);
        r.done("window(0, 0, 200, 1)", 1).asks("stationTold(0, 6)", 1).asks("planned(0, 1)", 6);
        r.done("window(0, 0, 200, 0)", 1).asks("stationTold(0, 6)", 0).asks("planned(0, 1)", 0);
    }

    private static void terms1AheadBits() {
        Run r = new Run("Terms 1", "STATIONS that must be AHEAD (bits; none at first)");
        for (int i = 0; i < 8; i++) {
            r.make("station(0, 0, 1, 1)");
        }
        r.asks("stationTold(0, 7)", 0).asks("stationTold(7, 7)", 0);
        r.done("ahead(7, 0)", 1).asks("stationTold(0, 7)", 128).asks("stationTold(7, 7)", 0);
        r.done("ahead(0, 7)", 1).asks("stationTold(7, 7)", 1);
        r.done("ahead(6, 7)", 1).asks("stationTold(7, 7)", 65);
        for (int i = 1; i < 6; i++) {
            r.done("ahead(" + i + ", 7)", 1);
        }
        r.asks("stationTold(7, 7)", 127);
    }

    private static void terms1Hours() {
        Run r = new Run("Terms 1", "HOURS are 0 .. 200");
        r.make("station(0, 0, 1, 1)");
        r.done("fit(0, 0, false)", 200).done("fit(200, 200, false)", 199);
        r.refused("fit(-1, 0, true)", 1).refused("fit(200, 201, true)", 1).refused("fit(-1, -1, true)", 1);
        r.refused("fit(201, 201, true)", 1).refused("fit(MIN, 200, true)", 1).refused("fit(0, MAX, true)", 1);
        r.asks("planned(0, 1)", 1);
        r.done("fit(0, 200, false)", 0).asks("plan(2)", 0);
        r.done("fit(200, 200, true)", 1).asks("planned(0, 1)", 200).asks("plan(1)", 201);
        r.done("fit(0, 0, true)", 2).asks("planned(0, 1)", 0).asks("plan(1)", 1);
        r.done("fit(0, 200, true)", 201);
    }

    private static void terms1LightHours() {
        for (int h = 0; h <= 200; h++) {
            int ofDay = h % 24;
            int light = ofDay >= 6 && ofDay <= 17 ? 1 : 0;
            Run r = new Run("Terms 1", "an HOUR is light if, modulo 24, it is 6 .. 17");
            r.make("station(0, 0, 1, 1)", "window(0, " + h + ", " + h + ", 1)").asks("plan(2)", light);
            r.make("window(0, " + h + ", " + h + ", 2)").asks("plan(2)", 1 - light);
        }
        Run r = new Run("Terms 1", "an HOUR is light if, modulo 24, it is 6 .. 17");
        r.make("station(0, 0, 1, 1)");
        r.make("window(0, 5, 6, 1)").asks("planned(0, 1)", 6);
        r.make("window(0, 17, 18, 1)").asks("planned(0, 1)", 17);
        r.make("window(0, 18, 29, 1)").asks("plan(2)", 0);
        r.make("window(0, 18, 30, 1)").asks("planned(0, 1)", 30);
        r.make("window(0, 6, 17, 2)").asks("plan(2)", 0);
        r.make("window(0, 6, 18, 2)").asks("planned(0, 1)", 18);
        r.make("window(0, 5, 17, 2)").asks("planned(0, 1)", 5);
    }

    private static void terms1FitAtFirst() {
        Run r = new Run("Terms 1", "each is FIT, or not (all are at first)");
        r.asks("count(10)", 201).make("station(0, 0, 1, 1)");
        r.make("window(0, 200, 200, 0)").asks("plan(2)", 1).make("window(0, 0, 200, 0)").asks("planned(0, 1)", 0);
        r.done("fit(0, 0, false)", 200).asks("planned(0, 1)", 1);
        r.done("fit(0, 0, false)", 200).done("fit(0, 0, true)", 201).done("fit(0, 0, true)", 201);
    }

    private static void terms1ShipBeginsAtZero() {
        int[][] places = {{0, 0, 0}, {1, 0, 1}, {-1, 0, 1}, {0, 1, 1}, {0, -1, 1}, {5, 0, 1}, {0, -5, 1}, {5, 1, 2}, {-5, -1, 2}};
        for (int[] p : places) {
            Run r = new Run("Terms 1", "The ship begins at X 0, Y 0");
            r.make("station(" + p[0] + ", " + p[1] + ", 1, 1)").asks("planned(0, 1)", p[2]).asks("plan(1)", p[2] + 1);
        }
    }

    private static void way(String speed, int[] from, int[] to, int hours) {
        Run r = new Run("Terms 1", "it takes the sum of the differences in X and in Y, by SPEED (5 at first), rounded up to whole HOURS");
        if (!speed.isEmpty()) {
            r.make(speed);
        }
        r.make("station(" + from[0] + ", " + from[1] + ", 1, 1)", "station(" + to[0] + ", " + to[1] + ", 1, 1)");
        r.asks("stationTold(0, 9)", hours).asks("stationTold(1, 9)", hours);
    }

    private static void terms1Ways() {
        int[][] sums = {{0, 0}, {1, 1}, {4, 1}, {5, 1}, {6, 2}, {9, 2}, {10, 2}, {11, 3}};
        for (int[] s : sums) {
            way("", new int[] {0, 0}, new int[] {s[0], 0}, s[1]);
            way("", new int[] {0, 0}, new int[] {s[0] / 2, s[0] / 2 - s[0]}, s[1]);
            way("", new int[] {-3, 7}, new int[] {-3 - s[0], 7}, s[1]);
        }
        int[] least = {-50, -50};
        int[] most = {50, 50};
        way("speed(1)", least, most, 200);
        way("speed(1)", new int[] {-50, 50}, new int[] {50, -50}, 200);
        way("speed(1)", least, new int[] {50, 49}, 199);
        way("speed(20)", least, most, 10);
        way("speed(20)", least, new int[] {50, 31}, 10);
        way("speed(20)", least, new int[] {50, 30}, 9);
        way("speed(20)", least, new int[] {-49, -50}, 1);
        way("speed(20)", least, least, 0);
    }

    private static void terms1FromEachToTheNext() {
        Run r = new Run("Terms 1", "the ship goes from each to the next one; at each it begins");
        r.make("station(10, 0, 1, 1)", "station(16, 0, 1, 1)").asks("planned(0, 1)", 2).asks("planned(1, 1)", 5);
        r.make("station(16, 5, 1, 1)").asks("planned(2, 0)", 2).asks("planned(2, 1)", 7).asks("plan(1)", 8);
        r.make("station(16, 5, 1, 1)").asks("planned(3, 0)", 3).asks("planned(3, 1)", 8).asks("plan(1)", 9);
    }

    private static void terms1Lasts() {
        Run r = new Run("Terms 1", "A STATION LASTS the MINUTES of all its CASTS that are not DONE, rounded up to whole HOURS, one at least.");
        r.make("station(0, 0, 900, 1)", "station(0, 0, 900, 1)").asks("stationTold(0, 8)", 1);
        r.make("cast(5, 0, 900)").asks("castTold(0, 3)", 0).asks("stationTold(0, 8)", 1);
        // 35 and 24 and 2 MINUTES.
        r.make("cast(3, 0, 0)", "cast(2, 0, 360)").asks("stationTold(0, 8)", 1);
        r.make("cast(0, 0, 60)").asks("castTold(3, 3)", 2).asks("stationTold(0, 8)", 2);
        r.make("does(3)").asks("stationTold(0, 8)", 1).asks("stationTold(1, 8)", 1);
        r.make("does(0)", "does(1)", "does(2)").asks("stationTold(0, 8)", 1);

        Run full = new Run("Terms 1", "rounded up to whole HOURS, one at least");
        full.make("station(0, 0, 900, 1)", "cast(2, 0, 900)").asks("castTold(0, 3)", 60).asks("stationTold(0, 8)", 1);
        full.make("cast(0, 0, 1)").asks("stationTold(0, 8)", 2);
        full.make("cast(2, 0, 870)").asks("stationTold(0, 8)", 2);
        full.make("cast(0, 0, 1)").asks("stationTold(0, 8)", 3);
        full.make("does(1)").asks("stationTold(0, 8)", 2);

        Run odd = new Run("Terms 1", "rounded up to whole HOURS, one at least");
        // 35 * 3 and 16 MINUTES are 121.
        odd.make("station(0, 0, 900, 1)", "cast(3, 0, 0)", "cast(3, 0, 0)", "cast(3, 0, 0)", "cast(2, 0, 210)");
        odd.asks("stationTold(0, 8)", 2).make("cast(0, 0, 60)").asks("stationTold(0, 8)", 3);

        Run most = new Run("Terms 1", "A STATION LASTS the MINUTES of all its CASTS");
        most.make("station(0, 0, 900, 1)");
        for (int i = 0; i < 30; i++) {
            most.make("cast(4, 0, 0)");
        }
        most.asks("stationTold(0, 8)", 33).asks("plan(1)", 33);
    }

    private static void terms1UnlikeStations() {
        Run r = new Run("Terms 1", "A PLAN is a row of unlike STATIONS");
        r.asks("plan(2)", 0).make("station(0, 0, 1, 99)");
        r.asks("plan(0)", 99).asks("plan(1)", 1).asks("plan(2)", 1).asks("planned(0, 0)", 0).asks("planned(1, 0)", -1);
        for (int i = 1; i < 8; i++) {
            r.make("station(0, 0, 1, 99)").asks("plan(2)", i + 1).asks("planned(" + i + ", 0)", i);
        }
        r.asks("plan(0)", 8 * 99).asks("plan(1)", 8).asks("planned(7, 1)", 7).asks("planned(8, 0)", -1);
    }

    private static void terms1BehindThoseAhead() {
        Run r = new Run("Terms 1", "each behind all those AHEAD of it that are in the row");
        r.make("station(0, 0, 1, 1)", "station(0, 0, 1, 1)", "station(0, 0, 1, 1)").asks("planned(0, 0)", 0);
        r.make("ahead(2, 0)").asks("planned(0, 0)", 1).asks("planned(1, 0)", 2).asks("planned(2, 0)", 0);
        r.make("ahead(2, 1)").asks("planned(0, 0)", 2).asks("planned(1, 0)", 0).asks("planned(2, 0)", 1);
        r.make("ahead(1, 0)").asks("planned(0, 0)", 2).asks("planned(1, 0)", 1).asks("planned(2, 0)", 0);
        r.make("fit(3, 200, false)", "window(2, 4, 200, 0)");
        r.asks("plan(2)", 2).asks("planned(0, 0)", 1).asks("planned(1, 0)", 0);

        Run round = new Run("Terms 1", "each behind all those AHEAD of it that are in the row");
        round.make("station(0, 0, 1, 1)", "station(0, 0, 1, 2)", "ahead(0, 1)").asks("plan(2)", 2);
        round.make("ahead(1, 0)").asks("plan(2)", 1).asks("plan(0)", 2).asks("planned(0, 0)", 1);

        Run last = new Run("Terms 1", "each behind all those AHEAD of it that are in the row");
        for (int i = 0; i < 8; i++) {
            last.make("station(0, 0, 1, 1)");
        }
        last.make("ahead(7, 0)").asks("plan(2)", 8).asks("planned(0, 0)", 1).asks("planned(6, 0)", 7).asks("planned(7, 0)", 0);
    }

    private static void terms1FirstHourFromComing() {
        Run r = new Run("Terms 1", "at each it begins in the first HOUR from its coming on");
        r.make("station(15, 0, 1, 1)").asks("planned(0, 1)", 3);
        r.make("window(0, 2, 200, 0)").asks("planned(0, 1)", 3);
        r.make("window(0, 3, 200, 0)").asks("planned(0, 1)", 3);
        r.make("window(0, 4, 200, 0)").asks("planned(0, 1)", 4);
        r.make("window(0, 0, 3, 0)").asks("planned(0, 1)", 3);
        r.make("window(0, 0, 2, 0)").asks("plan(2)", 0);
        r.make("window(0, 0, 200, 0)", "fit(3, 3, false)").asks("planned(0, 1)", 4);
        r.make("fit(3, 3, true)", "fit(2, 2, false)", "fit(4, 4, false)").asks("planned(0, 1)", 3);
    }

    /** A STATION at X 0, Y 0 that LASTS two HOURS (65 MINUTES). */
    private static Run twoHours(String sentence) {
        return new Run("Terms 1", sentence).make("station(0, 0, 900, 1)", "cast(4, 0, 0)").asks("stationTold(0, 8)", 2);
    }

    private static void terms1AllHoursFit() {
        String sentence = "from which all HOURS that it LASTS are FIT";
        twoHours(sentence).make("fit(0, 0, false)").asks("planned(0, 1)", 1);
        twoHours(sentence).make("fit(1, 1, false)").asks("planned(0, 1)", 2);
        twoHours(sentence).make("fit(2, 2, false)").asks("planned(0, 1)", 0);
        twoHours(sentence).make("fit(1, 1, false)", "fit(3, 3, false)").asks("planned(0, 1)", 4);
        twoHours(sentence).make("fit(0, 200, false)", "fit(100, 100, true)").asks("plan(2)", 0);
        twoHours(sentence).make("fit(0, 200, false)", "fit(100, 101, true)").asks("planned(0, 1)", 100);
    }

    private static void terms1LieInTheWindow() {
        Run r = twoHours("lie in the WINDOW");
        r.make("window(0, 3, 4, 0)").asks("planned(0, 1)", 3).asks("plan(1)", 5);
        r.make("window(0, 3, 3, 0)").asks("plan(2)", 0);
        r.make("window(0, 3, 5, 0)").asks("planned(0, 1)", 3);
        r.make("fit(3, 3, false)").asks("planned(0, 1)", 4);
        r.make("window(0, 3, 4, 0)").asks("plan(2)", 0);
        r.make("window(0, 0, 1, 0)").asks("planned(0, 1)", 0);
        r.make("window(0, 0, 0, 0)").asks("plan(2)", 0);
    }

    private static void terms1LightOfTheFirst() {
        Run r = twoHours("(LIGHT) the first of them is as it has to be");
        r.make("window(0, 17, 18, 1)").asks("planned(0, 1)", 17);
        r.make("window(0, 18, 19, 1)").asks("plan(2)", 0);
        r.make("window(0, 5, 6, 1)").asks("plan(2)", 0);
        r.make("window(0, 5, 7, 1)").asks("planned(0, 1)", 6);
        r.make("window(0, 5, 6, 2)").asks("planned(0, 1)", 5);
        r.make("window(0, 6, 7, 2)").asks("plan(2)", 0);
        r.make("window(0, 17, 18, 2)").asks("plan(2)", 0);
        r.make("window(0, 17, 19, 2)").asks("planned(0, 1)", 18);
    }

    private static void terms1NoneAboveTheLastHour() {
        Run r = twoHours("none of them being above 200");
        r.make("window(0, 199, 200, 0)").asks("planned(0, 1)", 199).asks("plan(1)", 201);
        r.make("window(0, 200, 200, 0)").asks("plan(2)", 0);
        r.make("window(0, 198, 200, 0)").asks("planned(0, 1)", 198).asks("plan(1)", 200);

        // From X 50, Y 50 on, left in HOUR 101, by 1 each HOUR.
        int[][] ways = {{0, 2, 2, 199}, {0, 1, 2, 200}, {0, 0, 1, -1}, {-50, -50, 1, -1}};
        for (int[] w : ways) {
            Run far = new Run("Terms 1", "none of them being above 200");
            far.make("speed(1)", "station(50, 50, 1, 1)", "station(" + w[0] + ", " + w[1] + ", 1, 1)", "ahead(0, 1)");
            far.asks("plan(2)", w[2]).asks("planned(1, 1)", w[3]);
        }
    }

    private static void terms1NoSuchHour() {
        Run r = new Run("Terms 1", "(a row in which one of them has no such HOUR is no PLAN)");
        r.make("station(0, 0, 1, 1)", "station(5, 0, 1, 99)", "window(0, 0, 2, 0)").asks("plan(2)", 2);
        r.make("window(1, 1, 1, 0)").asks("plan(2)", 1).asks("plan(0)", 99).asks("planned(0, 0)", 1).asks("planned(0, 1)", 1);
        r.make("window(1, 2, 2, 0)").asks("plan(2)", 2).asks("planned(0, 0)", 0).asks("planned(1, 1)", 2);
        r.make("window(1, 0, 0, 0)").asks("plan(2)", 1).asks("plan(0)", 1).asks("planned(0, 0)", 0);
        r.make("window(0, 0, 0, 0)", "fit(0, 0, false)").asks("plan(2)", 0).asks("plan(0)", 0).asks("planned(0, 0)", -1);
    }

    private static void terms1WorthAndEnd() {
        Run r = new Run("Terms 1", "Its WORTH is the sum of theirs, its END the HOUR behind the last one's last (0 of none).");
        r.asks("plan(0)", 0).asks("plan(1)", 0).asks("plan(2)", 0);
        r.make("station(0, 0, 900, 99)").asks("plan(0)", 99).asks("plan(1)", 1);
        r.make("cast(4, 0, 0)").asks("plan(1)", 2);
        r.make("station(5, 0, 1, 1)").asks("plan(0)", 100).asks("plan(1)", 4);
        r.make("window(1, 200, 200, 0)").asks("plan(0)", 100).asks("plan(1)", 201);
        r.make("fit(0, 200, false)").asks("plan(0)", 0).asks("plan(1)", 0);
    }

    private static void terms1GreatestWorthFirst() {
        Run r = new Run("Terms 1", "of all PLANS the one of the greatest WORTH, then of the least END");
        r.make("station(0, 0, 1, 4)", "station(50, 50, 1, 5)", "ahead(0, 1)", "ahead(1, 0)");
        r.asks("plan(0)", 5).asks("plan(1)", 21).asks("planned(0, 0)", 1);
        r.make("station(0, 0, 1, 1)", "ahead(1, 2)", "ahead(2, 1)").asks("plan(0)", 5).asks("plan(1)", 2).asks("plan(2)", 2);
        r.make("window(2, 20, 200, 0)").asks("plan(1)", 21).asks("planned(0, 0)", 0).asks("planned(1, 0)", 2);
        r.make("window(2, 21, 200, 0)").asks("plan(1)", 21).asks("plan(2)", 1).asks("planned(0, 0)", 1);
    }

    private static void terms1LeastEndThen() {
        Run r = new Run("Terms 1", "then of the least END");
        r.make("station(6, 0, 1, 3)", "station(5, 0, 1, 3)", "ahead(0, 1)", "ahead(1, 0)");
        r.asks("plan(0)", 3).asks("plan(1)", 2).asks("planned(0, 0)", 1);
        r.make("fit(1, 1, false)").asks("plan(1)", 3).asks("planned(0, 0)", 0);
        Run order = new Run("Terms 1", "then of the least END");
        order.make("station(10, 0, 1, 1)", "station(5, 0, 1, 1)").asks("plan(1)", 4).asks("planned(0, 0)", 1);
        order.make("fit(1, 1, false)").asks("plan(1)", 5).asks("planned(0, 0)", 0);
    }

    private static void terms1LesserStationThen() {
        String sentence = "then the one with the lesser STATION at the first place at which they differ";
        Run r = new Run("Terms 1", sentence);
        r.make("station(0, 5, 1, 2)", "station(0, 5, 1, 2)", "station(0, 5, 1, 2)");
        r.asks("planned(0, 0)", 0).asks("planned(1, 0)", 1).asks("planned(2, 0)", 2);
        r.make("window(0, 3, 3, 0)").asks("planned(0, 0)", 1).asks("planned(1, 0)", 2).asks("planned(2, 0)", 0);
        r.make("window(0, 2, 2, 0)").asks("planned(0, 0)", 1).asks("planned(1, 0)", 0).asks("planned(2, 0)", 2);
        r.make("ahead(0, 1)", "ahead(1, 0)").asks("plan(2)", 2).asks("planned(0, 0)", 1).asks("planned(1, 0)", 2);
        r.make("fit(0, 2, false)", "window(0, 0, 200, 0)").asks("planned(0, 0)", 0).asks("planned(1, 0)", 2);

        Run later = new Run("Terms 1", sentence);
        // 0 behind 1 and 0 behind 2 end alike; what stands at the first place counts, not the last.
        later.make("station(0, 0, 1, 2)", "station(0, 0, 1, 2)", "station(0, 0, 1, 2)", "ahead(1, 0)", "ahead(1, 2)", "ahead(2, 1)");
        later.asks("plan(0)", 4).asks("plan(1)", 2).asks("planned(0, 0)", 0).asks("planned(1, 0)", 2);
        later.make("ahead(2, 0)").asks("planned(0, 0)", 1).asks("planned(1, 0)", 0);
    }

    private static void promise2Station() {
        Run r = new Run("Promise 2", "A STATION: its number. STATUS 1, 2.");
        for (int i = 0; i < 8; i++) {
            r.done("station(-50, 50, 900, 99)", i);
        }
        r.refused("station(0, 0, 1, 1)", 2);
        r.refused("station(51, 0, 1, 1)", 1).refused("station(0, -51, 1, 1)", 1);
        r.refused("station(0, 0, 0, 1)", 1).refused("station(0, 0, 1, 100)", 1);
    }

    private static void promise3Window() {
        Run r = new Run("Promise 3", "WINDOW and LIGHT of a STATION: 1. STATUS 1 (also: from above to).");
        r.make("station(0, 0, 1, 1)", "station(0, 0, 1, 1)");
        r.done("window(0, 7, 8, 2)", 1).done("window(0, 8, 8, 2)", 1).refused("window(0, 9, 8, 1)", 1);
        r.refused("window(0, 200, 0, 1)", 1).refused("window(-1, 1, 2, 1)", 1).refused("window(2, 1, 2, 1)", 1);
        r.refused("window(MIN, 1, 2, 1)", 1).refused("window(MAX, 1, 2, 1)", 1);
        r.asks("stationTold(0, 4)", 8).asks("stationTold(0, 5)", 8).asks("stationTold(0, 6)", 2);
        r.asks("stationTold(1, 4)", 0).asks("stationTold(1, 5)", 200).asks("stationTold(1, 6)", 0);
        r.done("window(1, 0, 200, 0)", 1);
    }

    private static void promise4Ahead() {
        Run r = new Run("Promise 4", "STATION a must be AHEAD of STATION b from now on: 1 if it was not so, else 0. STATUS 1 (also a = b).");
        r.make("station(0, 0, 1, 1)", "station(0, 0, 1, 1)");
        r.refused("ahead(0, 0)", 1).refused("ahead(1, 1)", 1).refused("ahead(-1, 0)", 1).refused("ahead(0, -1)", 1);
        r.refused("ahead(2, 0)", 1).refused("ahead(0, 2)", 1).refused("ahead(2, 2)", 1).refused("ahead(-1, -1)", 1);
        r.refused("ahead(32, 0)", 1).refused("ahead(MIN, 1)", 1).refused("ahead(1, MAX)", 1);
        r.done("ahead(0, 1)", 1).done("ahead(0, 1)", 0).asks("stationTold(1, 7)", 1).asks("stationTold(0, 7)", 0);
        r.refused("ahead(0, 0)", 1);
        r.done("ahead(1, 0)", 1).done("ahead(1, 0)", 0).asks("stationTold(0, 7)", 2);
    }

    private static void promise5Fit() {
        Run r = new Run("Promise 5", "HOURS a to b are FIT, or not: how many are FIT in all. STATUS 1 (also: a above b).");
        r.done("fit(0, 200, false)", 0).done("fit(0, 200, true)", 201).done("fit(10, 11, false)", 199);
        r.done("fit(11, 12, false)", 198).done("fit(12, 12, true)", 199);
        r.refused("fit(11, 10, true)", 1).refused("fit(12, 11, false)", 1).refused("fit(200, 0, false)", 1);
        r.refused("fit(-1, 200, false)", 1).refused("fit(0, 201, false)", 1).refused("fit(MAX, MIN, false)", 1);
        r.done("fit(9, 9, false)", 198).asks("count(10)", 198).make("station(0, 0, 1, 1)", "window(0, 9, 200, 0)");
        r.asks("planned(0, 1)", 12);
    }

    private static void promise6Speed() {
        Run r = new Run("Promise 6", "SPEED becomes n (1 .. 20): what it was. STATUS 1.");
        r.asks("count(5)", 5).done("speed(1)", 5).done("speed(2)", 1).done("speed(19)", 2).done("speed(20)", 19);
        r.refused("speed(0)", 1).refused("speed(21)", 1).refused("speed(-1)", 1).refused("speed(MIN)", 1).refused("speed(MAX)", 1);
        r.asks("count(5)", 20).done("speed(20)", 20);
    }

    private static void promise19Plan() {
        Run r = new Run("Promise 19", "THE PLAN: what = 0 its WORTH, 1 its END, 2 how many STATIONS. -1: another.");
        r.asks("plan(-1)", -1).asks("plan(0)", 0).asks("plan(1)", 0).asks("plan(2)", 0).asks("plan(3)", -1);
        r.make("station(5, 0, 1, 7)").asks("plan(-1)", -1).asks("plan(0)", 7).asks("plan(1)", 2).asks("plan(2)", 1);
        r.asks("plan(3)", -1).asks("plan(MIN)", -1).asks("plan(MAX)", -1);
    }

    private static void promise20Planned() {
        Run r = new Run("Promise 20", "Of the i-th STATION of THE PLAN: 0 its number, 1 the HOUR in which it begins. -1: none such.");
        r.asks("planned(0, 0)", -1).asks("planned(0, 1)", -1);
        r.make("station(5, 0, 1, 7)", "station(0, 0, 1, 7)");
        r.asks("planned(0, 0)", 1).asks("planned(0, 1)", 0).asks("planned(1, 0)", 0).asks("planned(1, 1)", 2);
        r.asks("planned(2, 0)", -1).asks("planned(2, 1)", -1).asks("planned(-1, 0)", -1).asks("planned(-1, 1)", -1);
        r.asks("planned(0, -1)", -1).asks("planned(0, 2)", -1).asks("planned(1, 2)", -1).asks("planned(1, -1)", -1);
        r.asks("planned(MIN, 0)", -1).asks("planned(MAX, 0)", -1).asks("planned(0, MIN)", -1).asks("planned(0, MAX)", -1);
        r.make("fit(0, 200, false)").asks("planned(0, 0)", -1).asks("planned(0, 1)", -1);
    }

    private static void promise21StationTold() {
        Run r = new Run("Promise 21", "Of a STATION: 0 X, 1 Y, 2 DEPTH, 3 WORTH, 4, 5 its WINDOW, 6 LIGHT, 7 AHEAD, 8 how many HOURS it LASTS");
        r.make("station(-50, 50, 900, 99)", "station(0, 0, 1, 1)", "window(0, 3, 4, 2)", "ahead(1, 0)", "cast(4, 0, 0)");
        int[] due = {NO, -50, 50, 900, 99, 3, 4, 2, 2, 2, 20, NO};
        for (int what = -1; what < 11; what++) {
            r.asks("stationTold(0, " + what + ")", due[what + 1]);
        }
        r.asks("stationTold(0, MIN)", NO).asks("stationTold(0, MAX)", NO);
        Run none = new Run("Promise 21", "NO: no such.");
        none.asks("stationTold(0, 0)", NO).make("station(-1, -1, 1, 1)").asks("stationTold(0, 0)", -1);
        none.asks("stationTold(1, 0)", NO).asks("stationTold(-1, 0)", NO).asks("stationTold(0, 10)", NO).asks("stationTold(0, -1)", NO);
    }

    private static void promise21LeastHours() {
        Run r = new Run("Promise 21", "9 the least HOURS from another STATION to it (0: there is none)");
        r.make("station(50, 50, 1, 1)").asks("stationTold(0, 9)", 0);
        r.make("station(-50, -50, 1, 1)").asks("stationTold(0, 9)", 40).asks("stationTold(1, 9)", 40);
        r.make("station(44, 50, 1, 1)").asks("stationTold(0, 9)", 2).asks("stationTold(1, 9)", 39).asks("stationTold(2, 9)", 2);
        r.make("station(45, 50, 1, 1)").asks("stationTold(0, 9)", 1).asks("stationTold(2, 9)", 1).asks("stationTold(3, 9)", 1);
        r.make("station(50, 50, 1, 1)").asks("stationTold(0, 9)", 0).asks("stationTold(4, 9)", 0);
        r.make("speed(20)").asks("stationTold(1, 9)", 10).make("speed(1)").asks("stationTold(1, 9)", 194);
    }

    static void all() {
        promise1NothingAtFirst();
        terms1StationsEightAtMost();
        terms1NumbersOfStations();
        terms1Window();
        terms1LightOfStations();
        terms1AheadBits();
        terms1Hours();
        terms1LightHours();
        terms1FitAtFirst();
        terms1ShipBeginsAtZero();
        terms1Ways();
        terms1FromEachToTheNext();
        terms1Lasts();
        terms1UnlikeStations();
        terms1BehindThoseAhead();
        terms1FirstHourFromComing();
        terms1AllHoursFit();
        terms1LieInTheWindow();
        terms1LightOfTheFirst();
        terms1NoneAboveTheLastHour();
        terms1NoSuchHour();
        terms1WorthAndEnd();
        terms1GreatestWorthFirst();
        terms1LeastEndThen();
        terms1LesserStationThen();
        promise2Station();
        promise3Window();
        promise4Ahead();
        promise5Fit();
        promise6Speed();
        promise19Plan();
        promise20Planned();
        promise21StationTold();
        promise21LeastHours();
    }
}
