/** The bounds of STATUS, of the constants, of the 512 calls, and of promises 28 and 35. */
final class StatusBounds {
    private static final int NO = WaterCruise.NO;

    private static final String[] QUESTIONS = {"fault(0)", "plan(0)", "planned(0, 1)", "stationTold(0, 0)", "castTold(1, 4)", "bottleTold(1, 0, 3)",
        "sample(0, 0)", "box(0, 0)", "water(7, 1)", "mean(0, 0, 0, 0)", "count(2)", "trace(0)"};
    private static final int[] ANSWERS = {2, 60, 2, 7, 1, 6, 7, 0, 4, 3, 8, 12};
    private static final String[] NONE_SUCH = {"fault(2)", "plan(3)", "planned(9, 0)", "stationTold(9, 0)", "castTold(99, 0)",
        "bottleTold(0, 9, 0)", "sample(999, 0)", "box(9, 9)", "water(9, 0)", "mean(99, 0, 0, 0)", "count(12)", "trace(99)"};

    private StatusBounds() {
    }

    private static void calls512() {
        String sentence = "An object is used for at most 512 calls after it has been made; what later calls answer is free.";
        Sentences.hold("What it is", sentence);
        WaterCruise w = new WaterCruise();
        for (int i = 0; i < 504; i++) {
            w.speed(i % 20 + 1);
        }
        for (int i = 0; i < 7; i++) {
            w.station(i, 0, 1, 99);
        }
        Check.due(sentence + " the 512th is a change", w.station(7, 0, 1, 99), 7);

        WaterCruise dear = new WaterCruise();
        for (int i = 0; i < 8; i++) {
            dear.station(i % 4 * 9 - 20, i / 4 * 9, 1, 99);
        }
        for (int i = 8; i < 510; i += 2) {
            dear.speed(i % 20 + 1);
            Check.due(sentence + " a plan behind each change", dear.plan(2), 8);
        }
        Check.due(sentence + " the 511th", dear.speed(1), 9);
        Check.due(sentence + " the 512th is a question", dear.plan(0), 8 * 99);
    }

    private static void constants() {
        Check.due("Terms STATUS, \"NONE is -1; NO, where -1 may be an answer, -1000000.\": NONE", WaterCruise.NONE, -1);
        Sentences.hold("Public face", "NONE = -1, NO = -1000000;");
        Check.due("Public face, \"NONE = -1, NO = -1000000\": NO", WaterCruise.NO, -1000000);
        Run r = new Run("Terms STATUS", "NONE is -1; NO, where -1 may be an answer, -1000000.");
        r.make("station(-1, -1, 1, 1)", "cast(0, 0, 1)", "does(0)", "sheet(0, 2, 1)", "cell(0, 0, -8)", "readings(0, 0)");
        r.asks("stationTold(0, 0)", -1).asks("stationTold(1, 0)", NO).asks("mean(0, 0, 0, 0)", -1).asks("mean(1, 0, 0, 0)", NO);
        r.asks("castTold(1, 0)", -1).asks("bottleTold(0, 0, 0)", -1).asks("sample(0, 0)", -1);
    }

    /** Each question behind each STATUS, once with an answer and once with none such. */
    private static void questionsLeaveIt() {
        String sentence = "STATUS of the latest call that is no question (station, window, ahead, fit, speed, cast, bottle, fail, hand, "
            + "feed, lines, does, rest, use, takeUp, readings, sheet, cell, none, act, forge)";
        String[] last = {"speed(5)", "speed(0)", "hand(0)", "does(0)", "none(1, 0)", "none(0, 0)", "cell(0, 1, 0)", "forge(1, -1, 0)",
            "forge(4, 0, 0)", "forge(5, 0, 0)"};
        int[] statuses = {0, 1, 2, 3, 10, 11, 12, 13, 14, 15};
        for (int i = 0; i < last.length; i++) {
            Run.Behind w = fullOfAnswers(sentence).behind(last[i], statuses[i]);
            for (int k = 0; k < QUESTIONS.length; k++) {
                w.asks(QUESTIONS[k], ANSWERS[k]).asks(NONE_SUCH[k], k == 3 || k == 9 ? NO : -1).asks("status()", statuses[i]);
            }
        }
    }

    /** An object that has an answer to each of the questions. */
    private static Run fullOfAnswers(String sentence) {
        Run r = new Run("Terms STATUS", sentence).make("station(7, 0, 1, 60)");
        for (int i = 0; i < 8; i++) {
            r.make("hand(" + (8 - i) + ")");
        }
        r.lines(7, "take 4;", 1).fault(6, "take 0;", 2, 5).make("cast(0, 0, 1)", "cast(1, 0, 1)", "bottle(1, 1)", "does(0)", "does(1)");
        return r.make("sheet(1, 2, 1)", "cell(1, 0, 3)", "readings(0, 1)", "act(0, 2, 0)", "sheet(0, 1, 1)", "sheet(1, -1, 0)");
    }

    /** Each call that is no question: done it sets STATUS 0 behind a refused one, refused its own behind a done one. */
    private static void eachCallSetsIt() {
        String[] done = {"station(0, 0, 1, 1)", "window(0, 0, 200, 0)", "ahead(0, 1)", "fit(0, 0, true)", "speed(5)", "cast(0, 0, 1)", "bottle(1, 0)",
            "fail(1, 0)", "hand(0)", "feed(1, 32)", "lines(0)", "does(0)", "rest(0)", "use(0, false)", "takeUp(2)", "readings(3, 0)", "sheet(1, 1, 1)",
            "cell(0, 0, 0)", "none(0, 0)", "act(0, 0, 0)", "forge(6, 1, 0)"};
        String[] refused = {"station(51, 0, 1, 1)", "window(0, 1, 0, 0)", "ahead(0, 0)", "fit(1, 0, true)", "speed(21)", "cast(6, 0, 1)", "bottle(0, 0)",
            "fail(0, 0)", "hand(10)", "feed(0, 32)", "lines(-1)", "does(-1)", "rest(-1)", "use(-1, false)", "takeUp(0)", "readings(-1, 0)", "sheet(4, 1, 1)",
            "cell(0, 0, 1001)", "none(4, 0)", "act(0, 4, 0)", "forge(7, 1, 0)"};
        for (int i = 0; i < done.length; i++) {
            Run r = someOfEach("Promise 35", "STATUS.").refused("forge(5, 0, 0)", 15);
            WaterCruise w = someOfEach();
            w.forge(5, 0, 0);
            Call.of(done[i]).on(w);
            Check.due("Promise 35, \"STATUS.\": status() behind " + done[i], w.status(), 0);
            Check.due("Promise 35, \"STATUS.\": " + refused[i], Call.of(refused[i]).on(w), -1);
            Check.due("Promise 35, \"STATUS.\": status() behind " + refused[i], w.status(), 1);
            r.refused(refused[i], 1).make(done[i]).refused(refused[i], 1);
        }
    }

    private static final String[] SOME = {"station(0, 0, 1, 1)", "station(0, 0, 1, 1)", "hand(0)", "feed(7, 16661038836179316)", "lines(0)",
        "cast(0, 0, 1)", "cast(1, 0, 1)", "cast(4, 0, 1)", "cast(0, 0, 1)", "cast(1, 0, 1)", "bottle(4, 0)", "does(4)", "bottle(1, 0)", "does(2)", "does(3)",
        "sheet(0, 2, 1)"};

    private static Run someOfEach(String part, String sentence) {
        return new Run(part, sentence).make(SOME);
    }

    private static WaterCruise someOfEach() {
        WaterCruise w = new WaterCruise();
        for (String call : SOME) {
            Call.of(call).on(w);
        }
        return w;
    }

    /** Each call with each of its numbers at the ends of int, below 0 and far above: none throws, and a refused one answers -1. */
    private static void endsOfInt() {
        String sentence = "1 a number is none such or outside what is told";
        Sentences.hold("Terms STATUS", sentence);
        String[] numbers = {"MIN", "-1", "0", "2", "300", "MAX"};
        String[] calls = {"station 4", "window 4", "ahead 2", "fit 2 true", "fit 2 false", "speed 1", "cast 3", "bottle 2", "fail 2", "hand 1",
            "feed 2", "lines 1", "does 1", "rest 1", "use 1 true", "use 1 false", "takeUp 1", "readings 2", "sheet 3", "cell 3", "none 2", "act 3",
            "forge 3", "fault 1", "plan 1", "planned 2", "stationTold 2", "castTold 2", "bottleTold 3", "sample 2", "box 2", "water 2", "mean 4",
            "count 1", "trace 1"};
        for (int i = 0; i < calls.length; i++) {
            String[] words = calls[i].split(" ");
            int many = Integer.parseInt(words[1]);
            for (int which = 0; which < Math.pow(numbers.length, many); which++) {
                StringBuilder text = new StringBuilder(words[0]).append('(');
                for (int at = 0, rest = which; at < many; at++, rest /= numbers.length) {
                    String number = numbers[rest % numbers.length];
                    text.append(at == 0 ? "" : ", ").append(words[0].equals("feed") && at == 1 ? "" + Long.MIN_VALUE : number);
                }
                text.append(words.length > 2 ? ", " + words[2] : "").append(')');
                WaterCruise w = someOfEach();
                int answer = Call.of(text.toString()).on(w);
                String name = "Terms STATUS, \"" + sentence + "\": " + text;
                if (i >= 23) {
                    Check.due(name + " leaves the STATUS", w.status(), 0);
                } else if (w.status() != 0) {
                    Check.due(name, answer, -1);
                    Check.due(name + " is refused", w.status() <= 3 || w.status() >= 10 && w.status() <= 15);
                }
            }
        }
    }

    private static void lowestHolds() {
        String sentence = "Where several hold, the lowest. Such calls answer -1 and change nothing else.";
        Run r = new Run("Terms STATUS", sentence).make("station(0, 0, 60, 1)");
        for (int i = 1; i < 8; i++) {
            r.make("station(0, 0, 60, 1)", "hand(0)");
        }
        r.make("hand(0)").refused("station(0, 0, 0, 1)", 1).refused("station(0, 0, 1, 1)", 2).refused("hand(10)", 1).refused("hand(9)", 2);
        r.make("cast(1, 0, 60)");
        for (int i = 0; i < 8; i++) {
            r.make("bottle(0, 30)");
        }
        r.refused("bottle(0, -1)", 1).refused("bottle(0, 31)", 2).make("does(0)").refused("bottle(0, -1)", 1).refused("bottle(0, 31)", 2);
        r.refused("fail(0, 8)", 1).refused("fail(0, 0)", 3);
        r.make("cast(1, 0, 60)", "does(1)").refused("bottle(1, 61)", 3).refused("bottle(1, -1)", 1).refused("fail(1, 0)", 1);
        for (int i = 2; i < 30; i++) {
            r.make("cast(0, 0, 60)");
        }
        r.refused("cast(0, 0, 61)", 1).refused("cast(0, 0, 60)", 2);
        for (int i = 0; i < 11; i++) {
            r.make("rest(1000)");
        }
        r.make("rest(980)").asks("count(4)", 12000).refused("rest(1001)", 1).refused("rest(1)", 2);
        r.refused("does(30)", 1).refused("does(0)", 2).refused("does(2)", 2);
        r.refused("readings(30, 0)", 1).refused("readings(2, 0)", 10).refused("readings(2, 4)", 1).make("sheet(0, 1, 9)", "sheet(1, 2, 8)", "sheet(2, 2, 7)");
        r.refused("readings(2, 0)", 11).refused("readings(2, 1)", 12).refused("readings(2, 2)", 3);
        r.refused("none(3, 9)", 10).refused("none(0, 9)", 11).refused("none(1, 9)", 12).refused("none(4, 9)", 1);
        r.refused("cell(3, 9, 0)", 10).refused("cell(3, 9, 1001)", 1).refused("cell(0, 9, 1001)", 1).refused("cell(0, 9, 0)", 12);
        r.refused("forge(7, 0, 0)", 1).refused("forge(2, 9, 3)", 10).refused("forge(2, 9, 1)", 11).refused("forge(2, 9, 0)", 12);
        r.refused("forge(3, 9, 3)", 10).refused("forge(3, 9, 1)", 11).refused("forge(2, 101, 3)", 1);

        Run tape = new Run("Terms STATUS", sentence).make("hand(0)").feed(" ".repeat(159) + "x");
        tape.refused("feed(1, 32)", 2).refused("feed(9, 32)", 1).refused("lines(1)", 1);
        tape.refusedTape("lines(0)", 20).refused("lines(1)", 1);
    }

    private static void whatTheStatusesSay() {
        Run r = new Run("Terms STATUS", "0 done; 1 a number is none such or outside what is told; 2 there is no room; 3 it is not so (as told); "
            + "10 .. 15 the host refused it: 10 nothing where something is asked, 11 a thing of another sort or KIND, 12 a place outside, "
            + "13 a size below 0, 14 a thing that does not fit, 15 divided by 0.");
        r.done("speed(5)", 5).refused("speed(0)", 1);
        for (int i = 0; i < 8; i++) {
            r.done("hand(0)", i);
        }
        r.refused("hand(0)", 2).make("station(0, 0, 1, 1)", "cast(4, 0, 0)").refused("takeUp(0)", 3);
        r.refused("none(0, 0)", 10).refused("forge(0, 0, 1)", 10).refused("forge(6, 0, 0)", 10).make("sheet(0, 1, 1)").refused("none(0, 0)", 11);
        r.refused("forge(0, 1, 0)", 11).refused("cell(0, 1, 0)", 12).refused("forge(1, -1, 0)", 13);
        r.make("cast(0, 0, 1)").refused("forge(4, 0, 1)", 14).refused("forge(5, 0, 0)", 15).done("forge(5, 1, 0)", 1000);
    }

    private static void promise28Count() {
        String sentence = "How many: 0 STATIONS, 1 CASTS, 2 HANDS, 3 SAMPLES, 4 THE MINUTE, 5 SPEED, 6 bytes of THE TAPE, 7 THE TRACE's bodies, "
            + "8 SAMPLES KEPT, 9 MOORS LEFT, 10 HOURS that are FIT, 11 LINES of all HANDS. -1: another.";
        counts(new Run("Promise 28", sentence), 0, 0, 0, 0, 0, 5, 0, 0, 0, 0, 201, 0);
        Run r = someOfEach("Promise 28", sentence);
        counts(r, 2, 5, 1, 1, 53, 5, 0, 0, 1, 1, 201, 1);
        r.make("feed(8, 0)", "act(0, 1, 0)", "use(0, false)", "speed(20)", "fit(200, 200, false)", "rest(1000)");
        counts(r, 2, 5, 1, 1, 1053, 20, 8, 2, 0, 1, 200, 1);
        r.make("fit(0, 200, false)", "takeUp(2)", "station(0, 0, 1, 1)", "cast(0, 0, 1)", "hand(0)");
        counts(r, 3, 6, 2, 1, 1053, 20, 8, 2, 0, 0, 0, 1);
    }

    private static void counts(Run r, int... due) {
        for (int what = 0; what < due.length; what++) {
            r.asks("count(" + what + ")", due[what]);
        }
        r.asks("count(-1)", -1).asks("count(12)", -1).asks("count(MIN)", -1).asks("count(MAX)", -1);
    }

    static void all() {
        calls512();
        constants();
        questionsLeaveIt();
        eachCallSetsIt();
        endsOfInt();
        lowestHolds();
        whatTheStatusesSay();
        promise28Count();
    }
}
