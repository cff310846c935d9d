/** The bounds of STATUS, of the constants, of the 512 calls, and of promises 28 and 35. */
final class StatusBounds {
    private static final int NO = WaterCruise.NO;

    /** A question with an answer that is none, for each question of the face. */
    private static final String[] QUESTIONS = {"fault(2)", "plan(3)", "planned(9, 0)", "stationTold(9, 0)", "castTold(99, 0)",
        "bottleTold(0, 9, 0)", "sample(999, 0)", "box(9, 9)", "water(9, 0)", "mean(99, 0, 0, 0)", "count(12)", "trace(99)"};
    private static final int[] NONE_SUCH = {-1, -1, -1, NO, -1, -1, -1, -1, -1, NO, -1, -1};

    private StatusBounds() {
    }

    private static void calls512() {
        String sentence = "An object is used for at most 512 calls after it has been made; what later calls answer is free.";
        Sentences.hold("What it is", sentence);
        WaterCruise w = new WaterCruise();
        for (int i = 0; i < 504; i++) {
            w.speed(i % 20 + 1);
        }
        for (int i = 0; i < 7; i++) {
            w.station(i, 0, 1, 99);
        }
        Check.due(sentence + " the 512th is a change", w.station(7, 0, 1, 99), 7);

        WaterCruise dear = new WaterCruise();
        for (int i = 0; i < 8; i++) {
            dear.station(i % 4 * 9 - 20, i / 4 * 9, 1, 99);
        }
        for (int i = 8; i < 510; i += 2) {
            dear.speed(i % 20 + 1);
            Check.due(sentence + " a plan behind each change", dear.plan(2), 8);
        }
        Check.due(sentence + " the 511th", dear.speed(1), 9);
        Check.due(sentence + " the 512th is a question", dear.plan(0), 8 * 99);
    }

    private static void constants() {
        Check.due("Terms STATUS, \"NONE is -1; NO, where -1 may be an answer, -1000000.\": NONE", WaterCruise.NONE, -1);
        Sentences.hold("Public face", "NONE = -1, NO = -1000000;");
        Check.due("Public face, \"NONE = -1, NO = -1000000\": NO", WaterCruise.NO, -1000000);
        Run r = new Run("Terms STATUS", "NONE is -1; NO, where -1 may be an answer, -1000000.");
        r.make("station(-1, -1, 1, 1)", "cast(0, 0, 1)", "does(0)", "sheet(0, 2, 1)", "cell(0, 0, -8)", "readings(0, 0)");
        r.asks("stationTold(0, 0)", -1).asks("stationTold(1, 0)", NO).asks("mean(0, 0, 0, 0)", -1).asks("mean(1, 0, 0, 0)", NO);
        r.asks("castTold(1, 0)", -1).asks("bottleTold(0, 0, 0)", -1).asks("sample(0, 0)", -1);
    }

    private static void questionsLeaveIt() {
        Run r = new Run("Terms STATUS", "STATUS of the latest call that is no question (station, window, ahead, fit, speed, cast, bottle, fail, hand, "
            + "feed, lines, does, rest, use, takeUp, readings, sheet, cell, none, act, forge)");
        r.make("station(0, 0, 1, 1)");
        for (int i = 0; i < QUESTIONS.length; i++) {
            r.asks(QUESTIONS[i], NONE_SUCH[i]);
        }
        int[] statuses = {1, 2, 3, 10, 11, 12, 13, 14, 15};
        for (int status : statuses) {
            for (int i = 0; i < QUESTIONS.length; i++) {
                WaterCruise w = withStatus(status);
                Check.due("Terms STATUS, " + QUESTIONS[i] + " behind STATUS " + status, Call.of(QUESTIONS[i]).on(w), NONE_SUCH[i]);
                Check.due("Terms STATUS, status() behind " + QUESTIONS[i], w.status(), status);
                Check.due("Terms STATUS, status() behind status()", w.status(), status);
            }
        }
    }

    /** An object whose latest call was refused so. */
    private static WaterCruise withStatus(int status) {
        WaterCruise w = new WaterCruise();
        w.station(0, 0, 1, 1);
        w.cast(0, 0, 1);
        w.sheet(0, 1, 1);
        w.does(0);
        for (int i = 0; i < 8; i++) {
            w.hand(0);
        }
        String[] calls = {"speed(0)", "hand(0)", "does(0)", "none(1, 0)", "none(0, 0)", "cell(0, 1, 0)", "forge(1, -1, 0)", "forge(4, 0, 0)", "forge(5, 0, 0)"};
        int which = status < 10 ? status - 1 : status - 7;
        Check.due("Terms STATUS, " + calls[which], Call.of(calls[which]).on(w), -1);
        Check.due("Terms STATUS, status() behind " + calls[which], w.status(), status);
        return w;
    }

    /** Each call that is no question: done it sets STATUS 0 behind a refused one, refused its own behind a done one. */
    private static void eachCallSetsIt() {
        String[] done = {"station(0, 0, 1, 1)", "window(0, 0, 200, 0)", "ahead(0, 1)", "fit(0, 0, true)", "speed(5)", "cast(0, 0, 1)", "bottle(1, 0)",
            "fail(1, 0)", "hand(0)", "feed(1, 32)", "lines(0)", "does(0)", "rest(0)", "use(0, false)", "takeUp(2)", "readings(3, 0)", "sheet(1, 1, 1)",
            "cell(0, 0, 0)", "none(0, 0)", "act(0, 0, 0)", "forge(6, 1, 0)"};
        String[] refused = {"station(51, 0, 1, 1)", "window(0, 1, 0, 0)", "ahead(0, 0)", "fit(1, 0, true)", "speed(21)", "cast(6, 0, 1)", "bottle(0, 0)",
            "fail(0, 0)", "hand(10)", "feed(0, 32)", "lines(-1)", "does(-1)", "rest(-1)", "use(-1, false)", "takeUp(0)", "readings(-1, 0)", "sheet(4, 1, 1)",
            "cell(0, 0, 1001)", "none(4, 0)", "act(0, 4, 0)", "forge(7, 1, 0)"};
        for (int i = 0; i < done.length; i++) {
            Run r = someOfEach("Promise 35", "STATUS.").refused("forge(5, 0, 0)", 15);
            WaterCruise w = someOfEach();
            w.forge(5, 0, 0);
            Call.of(done[i]).on(w);
            Check.due("Promise 35, \"STATUS.\": status() behind " + done[i], w.status(), 0);
            Check.due("Promise 35, \"STATUS.\": " + refused[i], Call.of(refused[i]).on(w), -1);
            Check.due("Promise 35, \"STATUS.\": status() behind " + refused[i], w.status(), 1);
            r.refused(refused[i], 1).make(done[i]).refused(refused[i], 1);
        }
    }

    private static final String[] SOME = {"station(0, 0, 1, 1)", "station(0, 0, 1, 1)", "hand(0)", "feed(7, 16661038836179316)", "lines(0)",
        "cast(0, 0, 1)", "cast(1, 0, 1)", "cast(4, 0, 1)", "cast(0, 0, 1)", "cast(1, 0, 1)", "bottle(4, 0)", "does(4)", "bottle(1, 0)", "does(2)", "does(3)",
        "sheet(0, 2, 1)"};

    private static Run someOfEach(String part, String sentence) {
        return new Run(part, sentence).make(SOME);
    }

    private static WaterCruise someOfEach() {
        WaterCruise w = new WaterCruise();
        for (String call : SOME) {
            Call.of(call).on(w);
        }
        return w;
    }

    private static void lowestHolds() {
        String sentence = "Where several hold, the lowest. Such calls answer -1 and change nothing else.";
        Run r = new Run("Terms STATUS", sentence).make("station(0, 0, 60, 1)");
        for (int i = 1; i < 8; i++) {
            r.make("station(0, 0, 60, 1)", "hand(0)");
        }
        r.make("hand(0)").refused("station(0, 0, 0, 1)", 1).refused("station(0, 0, 1, 1)", 2).refused("hand(10)", 1).refused("hand(9)", 2);
        r.make("cast(1, 0, 60)");
        for (int i = 0; i < 8; i++) {
            r.make("bottle(0, 30)");
        }
        r.refused("bottle(0, -1)", 1).refused("bottle(0, 31)", 2).make("does(0)").refused("bottle(0, -1)", 1).refused("bottle(0, 31)", 2);
        r.refused("fail(0, 8)", 1).refused("fail(0, 0)", 3);
        r.make("cast(1, 0, 60)", "does(1)").refused("bottle(1, 61)", 3).refused("bottle(1, -1)", 1).refused("fail(1, 0)", 1);
        for (int i = 2; i < 30; i++) {
            r.make("cast(0, 0, 60)");
        }
        r.refused("cast(0, 0, 61)", 1).refused("cast(0, 0, 60)", 2);
        for (int i = 0; i < 11; i++) {
            r.make("rest(1000)");
        }
        r.make("rest(980)").asks("count(4)", 12000).refused("rest(1001)", 1).refused("rest(1)", 2);
        r.refused("does(30)", 1).refused("does(0)", 2).refused("does(2)", 2);
        r.refused("readings(30, 0)", 1).refused("readings(2, 0)", 10).refused("readings(2, 4)", 1).make("sheet(0, 1, 9)", "sheet(1, 2, 8)", "sheet(2, 2, 7)");
        r.refused("readings(2, 0)", 11).refused("readings(2, 1)", 12).refused("readings(2, 2)", 3);
        r.refused("none(3, 9)", 10).refused("none(0, 9)", 11).refused("none(1, 9)", 12).refused("none(4, 9)", 1);
        r.refused("cell(3, 9, 0)", 10).refused("cell(3, 9, 1001)", 1).refused("cell(0, 9, 1001)", 1).refused("cell(0, 9, 0)", 12);
        r.refused("forge(7, 0, 0)", 1).refused("forge(2, 9, 3)", 10).refused("forge(2, 9, 1)", 11).refused("forge(2, 9, 0)", 12);
        r.refused("forge(3, 9, 3)", 10).refused("forge(3, 9, 1)", 11).refused("forge(2, 101, 3)", 1);

        Run tape = new Run("Terms STATUS", sentence).make("hand(0)").feed(" ".repeat(159) + "x");
        tape.refused("feed(1, 32)", 2).refused("feed(9, 32)", 1).refused("lines(1)", 1);
        tape.refusedTape("lines(0)", 20).refused("lines(1)", 1);
    }

    private static void whatTheStatusesSay() {
        Run r = new Run("Terms STATUS", "0 done; 1 a number is none such or outside what is told; 2 there is no room; 3 it is not so (as told); "
            + "10 .. 15 the host refused it: 10 nothing where something is asked, 11 a thing of another sort or KIND, 12 a place outside, "
            + "13 a size below 0, 14 a thing that does not fit, 15 divided by 0.");
        r.done("speed(5)", 5).refused("speed(0)", 1);
        for (int i = 0; i < 8; i++) {
            r.done("hand(0)", i);
        }
        r.refused("hand(0)", 2).make("station(0, 0, 1, 1)", "cast(4, 0, 0)").refused("takeUp(0)", 3);
        r.refused("none(0, 0)", 10).refused("forge(0, 0, 1)", 10).refused("forge(6, 0, 0)", 10).make("sheet(0, 1, 1)").refused("none(0, 0)", 11);
        r.refused("forge(0, 1, 0)", 11).refused("cell(0, 1, 0)", 12).refused("forge(1, -1, 0)", 13);
        r.make("cast(0, 0, 1)").refused("forge(4, 0, 1)", 14).refused("forge(5, 0, 0)", 15).done("forge(5, 1, 0)", 1000);
    }

    private static void promise28Count() {
        String sentence = "How many: 0 STATIONS, 1 CASTS, 2 HANDS, 3 SAMPLES, 4 THE MINUTE, 5 SPEED, 6 bytes of THE TAPE, 7 THE TRACE's bodies, "
            + "8 SAMPLES KEPT, 9 MOORS LEFT, 10 HOURS that are FIT, 11 LINES of all HANDS. -1: another.";
        counts(new Run("Promise 28", sentence), 0, 0, 0, 0, 0, 5, 0, 0, 0, 0, 201, 0);
        Run r = someOfEach("Promise 28", sentence);
        counts(r, 2, 5, 1, 1, 53, 5, 0, 0, 1, 1, 201, 1);
        r.make("feed(8, 0)", "act(0, 1, 0)", "use(0, false)", "speed(20)", "fit(200, 200, false)", "rest(1000)");
        counts(r, 2, 5, 1, 1, 1053, 20, 8, 2, 0, 1, 200, 1);
        r.make("fit(0, 200, false)", "takeUp(2)", "station(0, 0, 1, 1)", "cast(0, 0, 1)", "hand(0)");
        counts(r, 3, 6, 2, 1, 1053, 20, 8, 2, 0, 0, 0, 1);
    }

    private static void counts(Run r, int... due) {
        for (int what = 0; what < due.length; what++) {
            r.asks("count(" + what + ")", due[what]);
        }
        r.asks("count(-1)", -1).asks("count(12)", -1).asks("count(MIN)", -1).asks("count(MAX)", -1);
    }

    static void all() {
        calls512();
        constants();
        questionsLeaveIt();
        eachCallSetsIt();
        lowestHolds();
        whatTheStatusesSay();
        promise28Count();
    }
}
