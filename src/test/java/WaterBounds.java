/** The bounds of HANDS, WATER and SAMPLES (Terms 2), and of promises 10, 16, 24, 25 and 26. */
final class WaterBounds {
    private WaterBounds() {
    }

    private static Run withStation(String part, String sentence) {
        return new Run(part, sentence).make("station(0, 0, 900, 1)");
    }

    /** One more BOTTLES CAST of DEPTH 1 with n BOTTLES at DEPTH 0. */
    private static Run bottles(Run r, int cast, int n) {
        r.make("cast(1, 0, 1)");
        for (int i = 0; i < n; i++) {
            r.make("bottle(" + cast + ", 0)");
        }
        return r;
    }

    private static Run hand(Run r, int number, int spoil, String text) {
        return r.make("hand(" + spoil + ")").feed(text).make("lines(" + number + ")");
    }

    /** A SAMPLE's HAND, BOTTLE, parts and LINE. */
    private static void sampleIs(Run r, int sample, int hand, int bottle, int parts, int line) {
        r.asks("sample(" + sample + ", 0)", hand).asks("sample(" + sample + ", 2)", bottle);
        r.asks("sample(" + sample + ", 3)", parts).asks("sample(" + sample + ", 9)", line);
    }

    private static void terms2HandsEightAtMost() {
        Run r = new Run("Terms 2", "HANDS (8 at most, numbered from 0)");
        r.refused("lines(0)", 1).asks("water(0, 0)", -1);
        for (int i = 0; i < 7; i++) {
            r.done("hand(" + i + ")", i);
        }
        r.refused("lines(7)", 1).asks("water(7, 0)", -1).done("hand(7)", 7).refused("hand(7)", 2).asks("count(2)", 8);
        r.asks("water(7, 0)", 0).asks("water(8, 0)", -1).done("lines(7)", 0).refused("lines(8)", 1).refused("lines(-1)", 1);
        Run full = withStation("Terms 2", "HANDS (8 at most, numbered from 0)");
        for (int i = 0; i < 8; i++) {
            hand(full, i, 8 - i, "take " + (i < 2 ? 2 : 1) + ";");
        }
        full.refused("hand(9)", 2).refused("hand(0)", 2).refused("hand(10)", 1).asks("count(11)", 8);
        bottles(full, 0, 1).make("does(0)").asks("count(3)", 8).asks("sample(0, 0)", 7).asks("sample(7, 0)", 0).asks("sample(7, 3)", 2);
    }

    private static void terms2Spoil() {
        Run r = withStation("Terms 2", "have a SPOIL 0 .. 9 and LINES (none at first)");
        r.refused("hand(-1)", 1).refused("hand(10)", 1).refused("hand(MIN)", 1).refused("hand(MAX)", 1);
        r.asks("count(11)", 0);
        hand(r, 0, 9, "take 1;");
        hand(r, 1, 8, "take 2;");
        hand(r, 2, 1, "take 3;");
        hand(r, 3, 0, "take 4;");
        r.make("hand(0)").asks("count(11)", 4);
        bottles(r, 0, 1).make("does(0)").asks("count(3)", 4);
        sampleIs(r, 0, 3, 0, 4, 0);
        sampleIs(r, 1, 2, 0, 3, 0);
        sampleIs(r, 2, 1, 0, 2, 0);
        sampleIs(r, 3, 0, 0, 1, 0);
        r.asks("water(4, 1)", 0);
    }

    private static void terms2LeastSpoilFirst() {
        Run r = withStation("Terms 2", "of each BOTTLE, in order: the HANDS, those of the least SPOIL first, of like ones by numbers");
        hand(r, 0, 5, "take 1;");
        hand(r, 1, 4, "take 1;");
        hand(r, 2, 5, "take 1;");
        hand(r, 3, 4, "take 1;");
        hand(r, 4, 6, "take 1;");
        bottles(r, 0, 2).make("does(0)").asks("count(3)", 10);
        int[] order = {1, 3, 0, 2, 4};
        for (int i = 0; i < 10; i++) {
            sampleIs(r, i, order[i % 5], i / 5, 1, 0);
        }
    }

    private static void terms2FirstLineThatHolds() {
        Run r = withStation("Terms 2", "the first of the HAND's LINES that holds");
        hand(r, 0, 0, "take 1 when depth=2;take 2 when depth<2;take 3;");
        r.make("cast(1, 0, 3)", "bottle(0, 3)", "bottle(0, 2)", "bottle(0, 1)", "bottle(0, 0)", "does(0)");
        sampleIs(r, 0, 0, 0, 3, 2);
        sampleIs(r, 1, 0, 1, 1, 0);
        sampleIs(r, 2, 0, 2, 2, 1);
        sampleIs(r, 3, 0, 3, 2, 1);
        Run last = withStation("Terms 2", "the first of the HAND's LINES that holds");
        hand(last, 0, 0, "take 1 when left=0;".repeat(7) + "take 2;take 3;");
        bottles(last, 0, 1).make("does(0)").asks("count(3)", 1);
        sampleIs(last, 0, 0, 0, 2, 7);
        Run none = withStation("Terms 2", "the first of the HAND's LINES that holds");
        hand(none, 0, 0, "take 1 when left=9;take 1 when left<10;");
        bottles(none, 0, 1).make("does(0)").asks("count(3)", 0).asks("bottleTold(0, 0, 3)", 10);
    }

    private static void terms2AtMostWhatIsLeft() {
        String sentence = "it takes so many parts as that says, at most what is left: if that is above 0 they are a SAMPLE";
        int[][] table = {{1, 10, 9}, {9, 2, 1}, {9, 1, 1}, {10, 1, 0}, {10, 10, 0}, {5, 5, 5}, {5, 6, 5}, {4, 6, 6}};
        for (int[] row : table) {
            Run r = withStation("Terms 2", sentence);
            hand(r, 0, 0, "take " + row[0] + ";");
            hand(r, 1, 1, "take " + row[1] + ";");
            bottles(r, 0, 1).make("does(0)");
            sampleIs(r, 0, 0, 0, row[0], 0);
            if (row[2] > 0) {
                sampleIs(r, 1, 1, 0, row[2], 0);
            }
            r.asks("count(3)", row[2] > 0 ? 2 : 1).asks("bottleTold(0, 0, 3)", Math.max(0, 10 - row[0] - row[1]));
            r.asks("water(1, 1)", row[2]);
        }
        Run fails = withStation("Terms 2", sentence);
        hand(fails, 0, 0, "take 1;");
        bottles(fails, 0, 2).make("fail(0, 0)", "does(0)").asks("count(3)", 1);
        sampleIs(fails, 0, 0, 1, 1, 0);
    }

    /** Eight HANDS that take 1 each, and n BOTTLES of which each so gives 8 SAMPLES. */
    private static Run eights(String part, String sentence, int n) {
        Run r = withStation(part, sentence);
        for (int i = 0; i < 8; i++) {
            hand(r, i, 0, "take 1;");
        }
        for (int cast = 0; cast * 8 < n; cast++) {
            bottles(r, cast, Math.min(8, n - cast * 8)).make("does(" + cast + ")");
        }
        return r.asks("count(3)", Math.min(250, 8 * n));
    }

    private static void terms2SamplesAtMost() {
        String sentence = "SAMPLES (250 at most; beyond that nothing is taken) are numbered from 0";
        Run r = eights("Terms 2", sentence, 31);
        r.asks("sample(247, 0)", 7).asks("sample(248, 0)", -1).refused("use(248, false)", 1);
        bottles(r, 4, 2).make("does(4)").asks("count(3)", 250).asks("count(8)", 250);
        r.asks("bottleTold(3, 6, 3)", 2).asks("bottleTold(4, 0, 3)", 8).asks("bottleTold(4, 1, 3)", 10);
        r.asks("bottleTold(4, 1, 2)", 74);
        sampleIs(r, 0, 0, 0, 1, 0);
        sampleIs(r, 248, 0, 0, 1, 0);
        sampleIs(r, 249, 1, 0, 1, 0);
        r.asks("sample(250, 0)", -1).refused("use(250, false)", 1).asks("water(1, 1)", 32).asks("water(2, 1)", 31);
        r.done("use(249, false)", 249).done("use(0, true)", 248).asks("box(0, 0)", -1);
        bottles(r, 5, 1).make("does(5)").asks("count(3)", 250).asks("bottleTold(5, 0, 3)", 10).asks("box(0, 0)", -1);

        Run one = eights("Terms 2", sentence, 31);
        one.make("cast(1, 0, 1)", "bottle(4, 0)", "bottle(4, 0)");
        for (int i = 1; i < 8; i++) {
            one.make("lines(" + i + ")");
        }
        one.make("does(4)").asks("count(3)", 250).asks("bottleTold(4, 0, 3)", 9).asks("bottleTold(4, 1, 3)", 9);
        bottles(one, 5, 1).make("does(5)").asks("count(3)", 250).asks("bottleTold(5, 0, 3)", 10);
    }

    private static void terms2FirstFreePlace() {
        String sentence = "each comes to the first free PLACE of BOXES 0 .. 4, each with PLACES 0 .. 11 (BOX by BOX); if there is none it is LOOSE";
        Run r = eights("Terms 2", sentence, 7);
        for (int i = 0; i < 56; i++) {
            r.asks("box(" + i / 12 + ", " + i % 12 + ")", i);
        }
        r.asks("sample(11, 4)", 0).asks("sample(11, 5)", 11).asks("sample(12, 4)", 1).asks("sample(12, 5)", 0);
        r.asks("box(4, 8)", -1).asks("box(4, 11)", -1);
        bottles(r, 1, 1).make("does(1)").asks("box(4, 8)", 56).asks("box(4, 11)", 59);
        r.asks("sample(59, 4)", 4).asks("sample(59, 5)", 11).asks("sample(60, 4)", -1).asks("sample(60, 5)", -1);
        r.asks("sample(60, 6)", 0).asks("sample(63, 4)", -1).asks("count(8)", 64);
        r.asks("box(4, 12)", -1).asks("box(5, 0)", -1).asks("box(-1, 0)", -1).asks("box(0, -1)", -1).asks("box(0, 12)", -1);
        r.done("use(13, false)", 63).done("use(59, true)", 62).done("use(12, true)", 61);
        r.asks("box(1, 0)", -1).asks("box(1, 1)", -1).asks("box(4, 11)", -1).asks("sample(60, 4)", -1);
        bottles(r, 2, 1).make("does(2)").asks("box(1, 0)", 64).asks("box(1, 1)", 65).asks("box(4, 11)", 66);
        r.asks("sample(64, 4)", 1).asks("sample(64, 5)", 0).asks("sample(66, 4)", 4).asks("sample(67, 4)", -1);
        r.asks("sample(67, 6)", 0).asks("sample(60, 4)", -1).asks("sample(12, 4)", -1);
    }

    private static void terms2FreeWhenNotKept() {
        Run r = withStation("Terms 2", "A SAMPLE is KEPT, USED, or LOST; its PLACE is free when it is not KEPT.");
        hand(r, 0, 0, "take 2;");
        bottles(r, 0, 3).make("does(0)").asks("sample(0, 6)", 0).asks("sample(1, 6)", 0).asks("sample(2, 6)", 0);
        r.done("use(0, false)", 2).done("use(2, true)", 1).asks("sample(0, 6)", 1).asks("sample(2, 6)", 2).asks("sample(1, 6)", 0);
        r.asks("box(0, 0)", -1).asks("box(0, 1)", 1).asks("box(0, 2)", -1).asks("box(0, 3)", -1);
        r.asks("sample(0, 4)", -1).asks("sample(0, 5)", -1).asks("sample(2, 4)", -1).asks("sample(2, 5)", -1).asks("sample(1, 5)", 1);
        bottles(r, 1, 3).make("does(1)").asks("box(0, 0)", 3).asks("box(0, 1)", 1).asks("box(0, 2)", 4).asks("box(0, 3)", 5);
        r.asks("sample(0, 4)", -1).asks("sample(3, 5)", 0).refused("use(0, false)", 3).asks("box(0, 0)", 3);
    }

    private static void promise10Hand() {
        Run r = new Run("Promise 10", "A HAND: its number. STATUS 1, 2.");
        r.done("hand(0)", 0).done("hand(9)", 1).refused("hand(-1)", 1).refused("hand(10)", 1).done("hand(1)", 2).done("hand(8)", 3);
        for (int i = 4; i < 8; i++) {
            r.done("hand(5)", i);
        }
        r.refused("hand(0)", 2).refused("hand(9)", 2).refused("hand(-1)", 1).refused("hand(10)", 1);
    }

    private static void promise16Use() {
        Run r = withStation("Promise 16", "A SAMPLE that is KEPT is USED (lost false) or LOST (true): how many are KEPT. STATUS 1, 3 (it is not KEPT).");
        r.refused("use(0, false)", 1);
        hand(r, 0, 0, "take 2;");
        bottles(r, 0, 2).make("does(0)");
        r.refused("use(-1, false)", 1).refused("use(2, false)", 1).refused("use(2, true)", 1).refused("use(MIN, true)", 1).refused("use(MAX, false)", 1);
        r.done("use(1, true)", 1).refused("use(1, true)", 3).refused("use(1, false)", 3).asks("sample(1, 6)", 2);
        r.done("use(0, false)", 0).refused("use(0, true)", 3).refused("use(0, false)", 3).asks("sample(0, 6)", 1).asks("count(8)", 0);
        r.refused("use(2, false)", 1).asks("count(3)", 2);
    }

    private static void promise24Sample() {
        Run r = withStation("Promise 24", "Of a SAMPLE: 0 HAND, 1 CAST, 2 BOTTLE, 3 parts, 4 BOX (NONE: LOOSE, or not KEPT), 5 PLACE (likewise), "
            + "6 how it is: 0 KEPT, 1 USED, 2 LOST, 7 its STATION, 8 the MINUTE in which its BOTTLE was shut, "
            + "9 the LINE by which (from 0). -1 also: no such.");
        r.make("station(0, 0, 900, 1)", "hand(0)", "hand(0)").lines(1, "take 10 when left=0;take 4 when left=10;", 2);
        r.make("rest(7)", "cast(0, 1, 1)", "cast(1, 1, 60)", "bottle(1, 60)", "bottle(1, 0)", "does(1)");
        sampleTold(r, 0, 1, 1, 0, 4, 0, 0, 0, 1, 8, 1);
        sampleTold(r, 1, 1, 1, 1, 4, 0, 1, 0, 1, 11, 1);
        sampleTold(r, 2, -1, -1, -1, -1, -1, -1, -1, -1, -1, -1);
        sampleTold(r, -1, -1, -1, -1, -1, -1, -1, -1, -1, -1, -1);
        r.make("use(0, false)", "use(1, true)");
        sampleTold(r, 0, 1, 1, 0, 4, -1, -1, 1, 1, 8, 1);
        sampleTold(r, 1, 1, 1, 1, 4, -1, -1, 2, 1, 11, 1);
        r.asks("sample(MIN, 0)", -1).asks("sample(MAX, 0)", -1).asks("sample(0, MIN)", -1).asks("sample(0, MAX)", -1);
    }

    private static void sampleTold(Run r, int sample, int... due) {
        for (int what = 0; what < due.length; what++) {
            r.asks("sample(" + sample + ", " + what + ")", due[what]);
        }
        r.asks("sample(" + sample + ", -1)", -1).asks("sample(" + sample + ", 10)", -1);
    }

    private static void promise25Box() {
        Run r = withStation("Promise 25", "The SAMPLE in a PLACE of a BOX. -1: none, or no such.");
        for (int box = 0; box < 5; box++) {
            for (int place = 0; place < 12; place++) {
                r.asks("box(" + box + ", " + place + ")", -1);
            }
        }
        Run full = eights("Promise 25", "The SAMPLE in a PLACE of a BOX. -1: none, or no such.", 8);
        for (int box = -1; box < 6; box++) {
            for (int place = -1; place < 13; place++) {
                boolean is = box >= 0 && box < 5 && place >= 0 && place < 12;
                full.asks("box(" + box + ", " + place + ")", is ? box * 12 + place : -1);
            }
        }
        full.asks("box(MIN, 0)", -1).asks("box(MAX, 0)", -1).asks("box(0, MIN)", -1).asks("box(0, MAX)", -1);
        full.make("use(59, false)").asks("box(4, 11)", -1).asks("box(4, 10)", 58);
    }

    private static void promise26Water() {
        Run r = withStation("Promise 26", "How many parts a HAND has in its SAMPLES that are KEPT (what 0), in all that it ever took (1). -1: no such.");
        hand(r, 0, 0, "take 3;");
        hand(r, 1, 0, "take 7 when depth=0;");
        r.asks("water(0, 0)", 0).asks("water(0, 1)", 0).make("cast(1, 0, 1)", "bottle(0, 1)", "bottle(0, 0)", "does(0)");
        r.asks("water(0, 0)", 6).asks("water(0, 1)", 6).asks("water(1, 0)", 7).asks("water(1, 1)", 7);
        r.make("use(0, false)").asks("water(0, 0)", 3).asks("water(0, 1)", 6).make("use(2, true)").asks("water(1, 0)", 0).asks("water(1, 1)", 7);
        r.make("use(1, true)").asks("water(0, 0)", 0).asks("water(0, 1)", 6);
        for (int what = 0; what < 2; what++) {
            r.asks("water(-1, " + what + ")", -1).asks("water(2, " + what + ")", -1);
            r.asks("water(MIN, " + what + ")", -1).asks("water(MAX, " + what + ")", -1);
        }
        r.asks("water(0, -1)", -1).asks("water(0, 2)", -1).asks("water(0, MIN)", -1).asks("water(0, MAX)", -1);
        Run most = withStation("Promise 26", "in all that it ever took (1)");
        hand(most, 0, 0, "take 10;");
        for (int i = 0; i < 29; i++) {
            bottles(most, i, 8).make("does(" + i + ")");
        }
        most.asks("water(0, 0)", 2320).asks("water(0, 1)", 2320);
    }

    static void all() {
        terms2HandsEightAtMost();
        terms2Spoil();
        terms2LeastSpoilFirst();
        terms2FirstLineThatHolds();
        terms2AtMostWhatIsLeft();
        terms2SamplesAtMost();
        terms2FirstFreePlace();
        terms2FreeWhenNotKept();
        promise10Hand();
        promise16Use();
        promise24Sample();
        promise25Box();
        promise26Water();
    }
}
