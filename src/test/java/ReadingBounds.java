/** The bounds of READINGS and MOORS (Terms 4), of SHEETS, and of promises 17, 18, 27 and 31 to 33. */
final class ReadingBounds {
    private static final int NO = WaterCruise.NO;
    private static final String MISSING = "or missing (as all are at first)";

    private ReadingBounds() {
    }

    /** A CAST of this DEPTH, DONE. */
    private static Run doneCast(String part, String sentence, int depth) {
        return new Run(part, sentence).make("station(0, 0, 900, 1)", "cast(0, 0, " + depth + ")", "does(0)");
    }

    private static void terms4OneForEachTen() {
        int[][] table = {{1, 1}, {9, 1}, {10, 2}, {11, 2}, {19, 2}, {20, 3}, {899, 90}, {900, 91}};
        for (int[] row : table) {
            Run r = doneCast("Terms 4", "one for each DEPTH 0, 10, 20, .. (as many as were told, none at first)", row[0]);
            r.asks("castTold(0, 6)", 0).asks("mean(0, 0, 900, 2)", 0).asks("mean(0, 0, 900, 3)", 0).asks("mean(0, 0, 900, 0)", NO);
            r.make("sheet(0, 2, " + row[1] + ")", "sheet(1, 2, " + (row[1] + 1) + ")", "sheet(2, 2, " + (row[1] - 1) + ")");
            r.refused("readings(0, 1)", 12).done("readings(0, 0)", row[1]).asks("castTold(0, 6)", row[1]);
            r.asks("mean(0, 0, 900, 2)", row[1]).refused("readings(0, 1)", 12);
            r.done("readings(0, 2)", row[1] - 1).asks("castTold(0, 6)", row[1] - 1).asks("mean(0, 0, 900, 2)", row[1] - 1);
        }
        Run depths = doneCast("Terms 4", "one for each DEPTH 0, 10, 20, ..", 900).make("sheet(0, 2, 91)");
        for (int i : new int[] {0, 1, 2, 89, 90}) {
            depths.make("cell(0, " + i + ", " + (8 * i + 8) + ")");
        }
        depths.make("readings(0, 0)");
        for (int i : new int[] {0, 1, 2, 89, 90}) {
            depths.asks("mean(0, " + 10 * i + ", " + 10 * i + ", 0)", i + 1).asks("mean(0, " + 10 * i + ", " + 10 * i + ", 2)", 1);
            depths.asks("mean(0, " + (10 * i + 1) + ", " + (10 * i + 9) + ", 2)", 0);
        }
        depths.asks("mean(0, 901, 910, 2)", 0).asks("mean(0, 900, 910, 2)", 1).asks("mean(0, -10, -1, 2)", 0).asks("mean(0, -10, 0, 2)", 1);
    }

    private static void terms4EighthsOrNoNumbers() {
        Run r = doneCast("Terms 4", "a row of eighths or NO NUMBERS", 20).make("sheet(0, 2, 3)", "cell(0, 0, 1)", "none(0, 1)", "readings(0, 0)");
        mean(r, 0, 0, 1, 8, 1, 0);
        mean(r, 10, 10, NO, NO, 0, 1);
        mean(r, 20, 20, 0, 1, 1, 0);
        mean(r, 0, 20, 1, 16, 2, 1);
        r.make("none(0, 0)", "none(0, 2)", "readings(0, 0)");
        mean(r, 0, 20, NO, NO, 0, 3);
        r.asks("castTold(0, 6)", 3);
    }

    private static void terms4MoorsAreLeft() {
        Run r = new Run("Terms 4", "MOORS that are DONE are LEFT, till they are taken up.").make("station(0, 0, 90, 1)");
        for (int kind = 0; kind < 6; kind++) {
            r.make("cast(" + kind + ", 0, 90)");
        }
        r.make("cast(4, 0, 90)", "cast(4, 0, 90)").asks("castTold(4, 7)", 0).asks("count(9)", 0);
        for (int cast = 0; cast < 7; cast++) {
            r.make("does(" + cast + ")").asks("castTold(" + cast + ", 7)", cast == 4 || cast == 6 ? 1 : 0);
        }
        r.asks("count(9)", 2).asks("castTold(7, 7)", 0);
        r.done("takeUp(4)", 1).asks("castTold(4, 7)", 0).asks("castTold(6, 7)", 1).done("takeUp(6)", 0).asks("count(9)", 0);
        r.refused("does(4)", 3).asks("castTold(4, 7)", 0).asks("castTold(4, 5)", 31);
        Run most = new Run("Terms 4", "MOORS that are DONE are LEFT, till they are taken up.").make("station(0, 0, 1, 1)");
        for (int i = 0; i < 30; i++) {
            most.make("cast(4, 0, 0)", "does(" + i + ")");
        }
        most.asks("count(9)", 30).done("takeUp(29)", 29).done("takeUp(0)", 28);
    }

    private static void promise17TakeUp() {
        Run r = new Run("Promise 17", "A MOOR is taken up: how many are LEFT. STATUS 1 (also: it is no MOOR), 3 (it is not LEFT).");
        r.make("station(0, 0, 90, 1)");
        for (int kind = 0; kind < 6; kind++) {
            r.make("cast(" + kind + ", 0, 90)");
        }
        r.refused("takeUp(4)", 3);
        for (int cast : new int[] {-1, 0, 1, 2, 3, 5, 6}) {
            r.refused("takeUp(" + cast + ")", 1);
        }
        r.refused("takeUp(MIN)", 1).refused("takeUp(MAX)", 1).make("does(3)", "does(4)").refused("takeUp(3)", 1);
        r.done("takeUp(4)", 0).refused("takeUp(4)", 3).asks("count(9)", 0);
    }

    private static void promise18Readings() {
        Run r = new Run("Promise 18", "READINGS of a CAST are the numbers of a SHEET that is taken for floats (in place of others): how many. "
            + "STATUS 1, 10, 11, 12 (the last one's DEPTH would be above that of the CAST), 3 (the CAST is not DONE); these in this order.");
        r.make("station(0, 0, 900, 1)", "cast(0, 0, 19)", "cast(0, 0, 19)", "does(1)");
        r.make("sheet(0, 2, 2)", "sheet(1, 2, 3)", "sheet(2, 1, 100)");
        for (int cast : new int[] {-1, 2}) {
            for (int sheet = -1; sheet < 5; sheet++) {
                r.refused("readings(" + cast + ", " + sheet + ")", 1);
            }
        }
        r.refused("readings(MIN, 3)", 1).refused("readings(MAX, 3)", 1).refused("readings(1, MIN)", 1).refused("readings(1, MAX)", 1);
        for (int cast = 0; cast < 2; cast++) {
            r.refused("readings(" + cast + ", -1)", 1).refused("readings(" + cast + ", 4)", 1);
            r.refused("readings(" + cast + ", 3)", 10).refused("readings(" + cast + ", 2)", 11).refused("readings(" + cast + ", 1)", 12);
        }
        r.make("sheet(2, 0, 1)").refused("readings(0, 2)", 11).refused("readings(1, 2)", 11);
        r.refused("readings(0, 0)", 3).make("sheet(2, 2, 0)").refused("readings(0, 2)", 3);
        r.done("readings(1, 0)", 2).asks("castTold(1, 6)", 2).asks("castTold(0, 6)", 0);
        r.refused("readings(1, 3)", 10).make("sheet(3, 1, 1)").refused("readings(1, 3)", 11).refused("readings(1, 4)", 1);
        r.refused("readings(1, 1)", 12).asks("castTold(1, 6)", 2).done("readings(1, 2)", 0).asks("castTold(1, 6)", 0);
        r.make("does(0)").done("readings(0, 0)", 2).done("readings(0, 0)", 2);

        Run others = doneCast("Promise 18", "(in place of others)", 30);
        others.make("sheet(0, 2, 4)", "cell(0, 0, 8)", "cell(0, 3, 8)", "sheet(1, 2, 2)", "cell(1, 1, 16)", "none(1, 0)");
        others.done("readings(0, 0)", 4).asks("mean(0, 30, 30, 0)", 1).done("readings(0, 1)", 2).asks("mean(0, 30, 30, 2)", 0);
        others.asks("mean(0, 0, 0, 3)", 1).asks("mean(0, 10, 10, 0)", 2).asks("mean(0, 0, 900, 2)", 1);
        others.done("readings(0, 0)", 4).asks("mean(0, 0, 0, 0)", 1).asks("mean(0, 10, 10, 0)", 0).asks("mean(0, 0, 900, 3)", 0);
        Run fewer = doneCast("Promise 18", "(in place of others)", 900).make("sheet(0, 2, 91)", "sheet(1, 2, 90)");
        for (int i = 0; i < 91; i++) {
            fewer.make("cell(0, " + i + ", 8)");
        }
        fewer.make("readings(0, 0)");
        mean(fewer, 0, 900, 1, 1, 91, 0);
        mean(fewer, 0, Integer.MAX_VALUE, 1, 1, 91, 0);
        fewer.make("readings(0, 1)");
        mean(fewer, 0, 900, 0, 1, 90, 0);
        mean(fewer, 900, Integer.MAX_VALUE, NO, NO, 0, 0);
        others.make("cell(0, 0, 80)", "sheet(1, -1, 0)").asks("mean(0, 0, 0, 0)", 1).asks("castTold(0, 6)", 4);
    }

    private static void mean(Run r, int a, int b, int above, int below, int numbers, int nones) {
        String call = "mean(0, " + a + ", " + b + ", ";
        r.asks(call + "0)", above).asks(call + "1)", below).asks(call + "2)", numbers).asks(call + "3)", nones);
        r.asks(call + "-1)", NO).asks(call + "4)", NO);
    }

    private static void promise27FromAToB() {
        Run r = doneCast("Promise 27", "Of the READINGS of a CAST at DEPTHS from a to b that are numbers", 40);
        r.make("sheet(0, 2, 5)", "cell(0, 0, 8)", "cell(0, 1, 16)", "none(0, 2)", "cell(0, 3, 24)", "cell(0, 4, 40)", "readings(0, 0)");
        mean(r, 10, 30, 5, 2, 2, 1);
        mean(r, 11, 30, 3, 1, 1, 1);
        mean(r, 9, 30, 5, 2, 2, 1);
        mean(r, 10, 29, 2, 1, 1, 1);
        mean(r, 10, 31, 5, 2, 2, 1);
        mean(r, 10, 39, 5, 2, 2, 1);
        mean(r, 10, 40, 10, 3, 3, 1);
        mean(r, 0, 40, 11, 4, 4, 1);
        mean(r, 10, 10, 2, 1, 1, 0);
        mean(r, 40, 40, 5, 1, 1, 0);
        mean(r, 41, 41, NO, NO, 0, 0);
        mean(r, 20, 20, NO, NO, 0, 1);
        mean(r, 21, 29, NO, NO, 0, 0);
        mean(r, 30, 10, NO, NO, 0, 0);
        mean(r, 11, 10, NO, NO, 0, 0);
        mean(r, -1, -1, NO, NO, 0, 0);
        mean(r, -1, 0, 1, 1, 1, 0);
        mean(r, Integer.MIN_VALUE, Integer.MAX_VALUE, 11, 4, 4, 1);
        mean(r, Integer.MAX_VALUE, Integer.MIN_VALUE, NO, NO, 0, 0);
    }

    private static void promise27LowestTerms() {
        String sentence = "the mean of these numbers (an eighth is 1 by 8), as a fraction in lowest terms: what = 0 above the line (with the sign), "
            + "1 below it (1 if the mean is 0); 2 how many, 3 how many there are no numbers.";
        int[][] table = {{0, 0, 1}, {1, 1, 8}, {-1, -1, 8}, {2, 1, 4}, {-2, -1, 4}, {4, 1, 2}, {6, 3, 4}, {7, 7, 8}, {8, 1, 1},
            {-8, -1, 1}, {9, 9, 8}, {1000, 125, 1}, {-1000, -125, 1}, {999, 999, 8}, {-999, -999, 8}, {-12, -3, 2}};
        for (int[] row : table) {
            Run r = doneCast("Promise 27", sentence, 10).make("sheet(0, 2, 1)", "cell(0, 0, " + row[0] + ")", "readings(0, 0)");
            mean(r, 0, 0, row[1], row[2], 1, 0);
        }
        Run zero = doneCast("Promise 27", sentence, 20).make("sheet(0, 2, 3)", "cell(0, 0, 5)", "cell(0, 1, -5)", "readings(0, 0)");
        mean(zero, 0, 10, 0, 1, 2, 0);
        mean(zero, 0, 20, 0, 1, 3, 0);
        zero.make("cell(0, 1, -2)", "readings(0, 0)");
        mean(zero, 0, 20, 1, 8, 3, 0);
        mean(zero, 0, 10, 3, 16, 2, 0);
        zero.make("cell(0, 2, -2)", "readings(0, 0)");
        mean(zero, 0, 20, 1, 24, 3, 0);
        Run most = doneCast("Promise 27", sentence, 900).make("sheet(0, 2, 91)");
        for (int i = 0; i < 91; i++) {
            most.make("cell(0, " + i + ", -1000)");
        }
        most.make("readings(0, 0)");
        mean(most, 0, 900, -125, 1, 91, 0);
        most.make("cell(0, 90, -999)", "readings(0, 0)");
        mean(most, 0, 900, -90999, 728, 91, 0);
        mean(most, 0, 899, -125, 1, 90, 0);
        most.make("none(0, 0)", "none(0, 90)", "readings(0, 0)");
        mean(most, 0, 900, -125, 1, 89, 2);
    }

    private static void promise27NoSuch() {
        Run r = doneCast("Promise 27", "NO: no such (0, 1: there are none).", 10).make("cast(0, 0, 10)", "sheet(0, 2, 2)", "none(0, 0)");
        for (int what = -1; what < 5; what++) {
            boolean none = what == 2 || what == 3;
            r.asks("mean(-1, 0, 900, " + what + ")", NO).asks("mean(2, 0, 900, " + what + ")", NO);
            r.asks("mean(0, 0, 900, " + what + ")", none ? 0 : NO).asks("mean(1, 0, 900, " + what + ")", none ? 0 : NO);
        }
        r.asks("mean(MIN, 0, 900, 2)", NO).asks("mean(MAX, 0, 900, 2)", NO).asks("mean(0, 0, 900, MIN)", NO).asks("mean(0, 0, 900, MAX)", NO);
        r.make("readings(0, 0)");
        mean(r, 0, 0, NO, NO, 0, 1);
        mean(r, 0, 10, 0, 1, 1, 1);
    }

    private static void sheetsNumbered() {
        Run r = new Run("Terms SHEETS", "SHEETS 0 .. 3 are rows of numbers, or missing (as all are at first)");
        for (int s = 0; s < 4; s++) {
            r.refused("cell(" + s + ", 0, 0)", 10).refused("none(" + s + ", 0)", 10);
            r.refused("forge(2, 0, " + s + ")", 10).refused("forge(3, 0, " + s + ")", 10);
            r.done("sheet(" + s + ", 1, 1)", 1).done("cell(" + s + ", 0, " + (s + 5) + ")", 1).done("forge(2, 0, " + s + ")", s + 5);
        }
        r.refused("sheet(-1, 1, 1)", 1).refused("sheet(4, 1, 1)", 1).refused("cell(-1, 0, 0)", 1).refused("cell(4, 0, 0)", 1);
        r.done("forge(2, 0, 0)", 5).done("forge(2, 0, 3)", 8).done("sheet(3, -1, 0)", 1).refused("cell(3, 0, 0)", 10).done("cell(2, 0, 0)", 1);
        Run cast = doneCast("Terms SHEETS", MISSING, 10);
        for (int s = 0; s < 4; s++) {
            cast.refused("readings(0, " + s + ")", 10);
        }
    }

    private static void sheetsSorts() {
        Run r = doneCast("Terms SHEETS", "of sort 0 (bytes), 1 (shorts), 2 (floats)", 10);
        r.make("sheet(0, 0, 2)", "sheet(1, 1, 2)", "sheet(2, 2, 2)", "cell(0, 1, 7)", "cell(1, 1, 7)", "cell(2, 1, 7)");
        r.done("forge(3, 1, 0)", 7).refused("forge(2, 1, 0)", 11).refused("none(0, 1)", 11).refused("readings(0, 0)", 11);
        r.done("forge(2, 1, 1)", 7).refused("forge(3, 1, 1)", 11).refused("none(1, 1)", 11).refused("readings(0, 1)", 11);
        r.refused("forge(2, 1, 2)", 11).refused("forge(3, 1, 2)", 11).done("readings(0, 2)", 2).asks("mean(0, 10, 10, 1)", 8).done("none(2, 1)", 1);
    }

    private static void promise31Sheet() {
        Run r = new Run("Promise 31", "A SHEET of a sort (0 .. 2) with n (0 .. 100) numbers, all 0; "
            + "sort -1: it is missing from now on (n does not matter). Answers 1. STATUS 1.");
        for (int sort = 0; sort < 3; sort++) {
            r.refused("sheet(0, " + sort + ", -1)", 1).refused("sheet(0, " + sort + ", 101)", 1);
            r.refused("sheet(0, " + sort + ", MIN)", 1).refused("sheet(0, " + sort + ", MAX)", 1);
            r.done("sheet(0, " + sort + ", 0)", 1).refused("cell(0, 0, 1)", 12);
            r.done("sheet(0, " + sort + ", 1)", 1).done("cell(0, 0, 1)", 1).refused("cell(0, 1, 1)", 12);
            r.done("sheet(0, " + sort + ", 99)", 1).refused("cell(0, 99, 1)", 12).done("cell(0, 98, 1)", 1);
            r.done("sheet(0, " + sort + ", 100)", 1).done("cell(0, 99, 1)", 1).refused("cell(0, 100, 1)", 12);
        }
        r.refused("sheet(0, -2, 1)", 1).refused("sheet(0, 3, 1)", 1).refused("sheet(0, MIN, 1)", 1).refused("sheet(0, MAX, 1)", 1);
        r.refused("sheet(-1, 0, 1)", 1).refused("sheet(4, 0, 1)", 1).refused("sheet(-1, -1, 1)", 1).refused("sheet(4, -1, 1)", 1);
        r.refused("sheet(MIN, 0, 1)", 1).refused("sheet(MAX, -1, 1)", 1);
        for (String n : new String[] {"MIN", "-1", "0", "100", "101", "MAX"}) {
            r.make("sheet(0, 1, 3)", "cell(0, 2, 9)").done("sheet(0, -1, " + n + ")", 1).refused("cell(0, 0, 1)", 10).refused("forge(2, 2, 0)", 10);
        }
        r.done("sheet(0, -1, 0)", 1).done("sheet(0, 1, 3)", 1).done("forge(2, 2, 0)", 0);
        r.make("cell(0, 2, 9)").done("sheet(0, 1, 3)", 1).done("forge(2, 2, 0)", 0);
        r.make("cell(0, 1, 9)").done("sheet(0, 0, 3)", 1).done("forge(3, 1, 0)", 0).make("cell(0, 1, 9)").done("sheet(0, 1, 3)", 1).done("forge(2, 1, 0)", 0);
        Run all = new Run("Promise 31", "with n (0 .. 100) numbers, all 0").make("sheet(3, 1, 100)", "cell(3, 99, 4)", "sheet(3, 1, 100)");
        for (int i = 0; i < 100; i++) {
            all.done("forge(2, " + i + ", 3)", 0);
        }
        Run none = doneCast("Promise 31", "numbers, all 0", 10).make("sheet(0, 2, 2)", "none(0, 0)", "sheet(0, 2, 2)", "readings(0, 0)");
        mean(none, 0, 10, 0, 1, 2, 0);
    }

    private static void promise32Cell() {
        Run r = new Run("Promise 32", "Number i of a SHEET becomes v (-1000 .. 1000; of sort 0 cut to its lowest 8 bits, with sign; "
            + "of sort 2 v eighths). Answers 1. STATUS 1, 10, 12.");
        r.refused("cell(0, 0, 0)", 10).refused("cell(0, -1, 1000)", 10).refused("cell(0, 0, 1001)", 1).refused("cell(0, 0, -1001)", 1);
        r.make("sheet(0, 0, 2)", "sheet(1, 1, 2)", "sheet(2, 2, 2)");
        for (int s = 0; s < 3; s++) {
            r.done("cell(" + s + ", 0, -1000)", 1).done("cell(" + s + ", 1, 1000)", 1).done("cell(" + s + ", 1, 999)", 1);
            r.refused("cell(" + s + ", 0, -1001)", 1).refused("cell(" + s + ", 0, 1001)", 1);
            r.refused("cell(" + s + ", 0, MIN)", 1).refused("cell(" + s + ", 0, MAX)", 1);
            r.refused("cell(" + s + ", -1, 5)", 12).refused("cell(" + s + ", 2, 5)", 12);
            r.refused("cell(" + s + ", MIN, 5)", 12).refused("cell(" + s + ", MAX, 5)", 12);
            r.refused("cell(" + s + ", 2, 1001)", 1).refused("cell(" + s + ", -1, -1001)", 1);
        }
        r.refused("cell(-1, 0, 0)", 1).refused("cell(4, 0, 0)", 1).refused("cell(MIN, 0, 0)", 1).refused("cell(MAX, 5, 0)", 1);
        r.done("forge(2, 0, 1)", -1000).done("forge(2, 1, 1)", 999);

        int[][] cut = {{0, 0}, {1, 1}, {-1, -1}, {127, 127}, {128, -128}, {129, -127}, {-128, -128}, {-129, 127}, {255, -1}, {256, 0},
            {257, 1}, {-255, 1}, {-256, 0}, {-257, -1}, {383, 127}, {384, -128}, {-384, -128}, {-385, 127}, {1000, -24}, {-1000, 24}};
        for (int[] row : cut) {
            Run bytes = new Run("Promise 32", "of sort 0 cut to its lowest 8 bits, with sign").make("sheet(0, 0, 2)", "sheet(1, 1, 2)");
            bytes.done("cell(0, 1, " + row[0] + ")", 1).done("forge(3, 1, 0)", row[1]);
            bytes.done("cell(1, 1, " + row[0] + ")", 1).done("forge(2, 1, 1)", row[0]);
            Run eighths = doneCast("Promise 32", "of sort 2 v eighths", 10).make("sheet(2, 2, 1)");
            eighths.done("cell(2, 0, " + row[0] + ")", 1).make("readings(0, 2)");
            eighths.asks("mean(0, 0, 0, 0)", row[0] / gcd(row[0])).asks("mean(0, 0, 0, 1)", 8 / gcd(row[0]));
        }
        Run again = doneCast("Promise 32", "Number i of a SHEET becomes v", 10).make("sheet(0, 2, 1)", "none(0, 0)", "cell(0, 0, 8)", "readings(0, 0)");
        mean(again, 0, 0, 1, 1, 1, 0);
    }

    private static int gcd(int v) {
        return v % 8 == 0 ? 8 : v % 4 == 0 ? 4 : v % 2 == 0 ? 2 : 1;
    }

    private static void promise33None() {
        Run r = doneCast("Promise 33", "Number i of a SHEET of floats becomes no number. Answers 1. STATUS 1, 10, 11, 12 (the lowest that holds).", 20);
        r.refused("none(0, 0)", 10).refused("none(0, -1)", 10).refused("none(0, 100)", 10);
        r.make("sheet(0, 2, 3)", "sheet(1, 1, 3)", "sheet(2, 0, 3)", "sheet(3, 2, 0)");
        r.refused("none(-1, 0)", 1).refused("none(4, 0)", 1).refused("none(MIN, 0)", 1).refused("none(MAX, -1)", 1);
        for (int s = 1; s < 3; s++) {
            r.refused("none(" + s + ", 0)", 11).refused("none(" + s + ", 3)", 11).refused("none(" + s + ", -1)", 11);
        }
        r.refused("none(3, 0)", 12).refused("none(0, -1)", 12).refused("none(0, 3)", 12).refused("none(0, MIN)", 12).refused("none(0, MAX)", 12);
        r.done("none(0, 0)", 1).done("none(0, 2)", 1).done("none(0, 2)", 1).make("readings(0, 0)");
        mean(r, 0, 0, NO, NO, 0, 1);
        mean(r, 0, 20, 0, 1, 1, 2);
        Run last = doneCast("Promise 33", "Number i of a SHEET of floats becomes no number.", 900).make("sheet(0, 2, 91)");
        last.done("none(0, 90)", 1).make("readings(0, 0)");
        mean(last, 890, 900, 0, 1, 1, 1);
        last.make("sheet(0, 2, 100)").done("none(0, 99)", 1).refused("none(0, 100)", 12);
    }

    static void all() {
        terms4OneForEachTen();
        terms4EighthsOrNoNumbers();
        terms4MoorsAreLeft();
        promise17TakeUp();
        promise18Readings();
        promise27FromAToB();
        promise27LowestTerms();
        promise27NoSuch();
        sheetsNumbered();
        sheetsSorts();
        promise31Sheet();
        promise32Cell();
        promise33None();
    }
}
