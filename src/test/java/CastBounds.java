/** The bounds of CASTS and BOTTLES (Terms 1 and 2), and of promises 7 to 9, 14, 15, 22 and 23. */
final class CastBounds {
    private CastBounds() {
    }

    private static Run withStation(String part, String sentence, int depth) {
        return new Run(part, sentence).make("station(0, 0, " + depth + ", 1)");
    }

    private static void terms1CastsThirtyAtMost() {
        Run r = withStation("Terms 1", "CASTS (30 at most, numbered from 0) have a KIND", 90);
        r.refused("does(0)", 1).asks("castTold(0, 0)", -1);
        for (int i = 0; i < 29; i++) {
            r.done("cast(" + i % 6 + ", 0, 90)", i);
        }
        r.refused("does(29)", 1).asks("castTold(29, 0)", -1);
        r.done("cast(1, 0, 90)", 29);
        r.refused("cast(1, 0, 90)", 2).asks("count(1)", 30);
        r.asks("castTold(0, 0)", 0).asks("castTold(28, 0)", 4).asks("castTold(29, 0)", 1);
        r.asks("castTold(30, 0)", -1).asks("castTold(-1, 0)", -1).asks("castTold(MAX, 0)", -1).asks("castTold(MIN, 0)", -1);
        r.refused("does(30)", 1).refused("does(-1)", 1).done("bottle(29, 0)", 0).done("does(29)", 6);
    }

    private static void terms1DepthOfCasts() {
        for (int depth : new int[] {1, 2, 100, 899, 900}) {
            for (int kind : new int[] {0, 1, 2, 5}) {
                Run r = withStation("Terms 1", "a DEPTH 1 .. its STATION's", depth);
                r.done("cast(" + kind + ", 0, 1)", 0).asks("castTold(0, 2)", 1);
                r.done("cast(" + kind + ", 0, " + depth + ")", 1).asks("castTold(1, 2)", depth);
                r.done("cast(" + kind + ", 0, " + Math.max(1, depth - 1) + ")", 2);
                r.refused("cast(" + kind + ", 0, 0)", 1).refused("cast(" + kind + ", 0, -1)", 1);
                r.refused("cast(" + kind + ", 0, " + (depth + 1) + ")", 1).refused("cast(" + kind + ", 0, 901)", 1);
                r.refused("cast(" + kind + ", 0, MIN)", 1).refused("cast(" + kind + ", 0, MAX)", 1);
            }
        }
        Run r = withStation("Terms 1", "a DEPTH 1 .. its STATION's", 5).make("station(0, 0, 7, 1)");
        r.refused("cast(0, 0, 6)", 1).done("cast(0, 1, 6)", 0).done("cast(0, 1, 7)", 1).refused("cast(0, 1, 8)", 1);
    }

    private static void terms1Kinds() {
        Run r = withStation("Terms 1", "KINDS: 0 CAST. 1 BOTTLES, under CAST. 2 NET, under CAST. 3 CORE, under CAST. "
            + "4 MOOR, under CORE. 5 UNDERWAY, under CAST.", 100);
        r.refused("cast(-1, 0, 10)", 1).refused("cast(6, 0, 10)", 1).refused("cast(MIN, 0, 10)", 1).refused("cast(MAX, 0, 10)", 1);
        for (int kind = 0; kind < 6; kind++) {
            r.done("cast(" + kind + ", 0, 10)", kind).asks("castTold(" + kind + ", 0)", kind);
        }
        int[][] under = {{0}, {0, 1}, {0, 2}, {0, 3}, {0, 3, 4}, {0, 5}};
        for (int kind = 0; kind < 6; kind++) {
            for (int upper = 0; upper < 6; upper++) {
                boolean is = false;
                for (int u : under[kind]) {
                    is |= u == upper;
                }
                String call = "forge(0, " + upper + ", " + kind + ")";
                if (is) {
                    r.done(call, kind);
                } else {
                    r.refused(call, 11);
                }
            }
        }
    }

    /** depth, MINUTES down. */
    private static void minutesDown(int kind, int more, int[][] table) {
        for (int[] row : table) {
            Run r = withStation("Terms 1", "MINUTES down: DEPTH by a number, rounded up: of CAST, BOTTLES 60, NET 30, CORE, MOOR 90; "
                + "of UNDERWAY 0 MINUTES; up likewise.", row[0]);
            r.make("cast(" + kind + ", 0, " + row[0] + ")").asks("castTold(0, 3)", 2 * row[1] + more);
            r.done("does(0)", 2 * row[1] + more);
        }
    }

    private static void terms1Minutes() {
        int[][] by60 = {{1, 1}, {59, 1}, {60, 1}, {61, 2}, {119, 2}, {120, 2}, {121, 3}, {840, 14}, {841, 15}, {899, 15}, {900, 15}};
        int[][] by30 = {{1, 1}, {29, 1}, {30, 1}, {31, 2}, {59, 2}, {60, 2}, {61, 3}, {870, 29}, {871, 30}, {899, 30}, {900, 30}};
        int[][] by90 = {{1, 1}, {89, 1}, {90, 1}, {91, 2}, {179, 2}, {180, 2}, {181, 3}, {810, 9}, {811, 10}, {899, 10}, {900, 10}};
        minutesDown(0, 0, by60);
        minutesDown(1, 0, by60);
        minutesDown(2, 0, by30);
        minutesDown(3, 15, by90);
        minutesDown(4, 45, by90);
        minutesDown(5, 0, new int[][] {{1, 0}, {60, 0}, {899, 0}, {900, 0}});
    }

    private static void terms1MinutesMore() {
        Run r = withStation("Terms 1", "MINUTES of a CAST: down and up; of BOTTLES 2 more for each of its BOTTLES; of CORE 15 more; "
            + "of MOOR 45 (not 15, too) more.", 60);
        r.make("cast(1, 0, 60)", "cast(1, 0, 60)", "cast(0, 0, 60)", "cast(3, 0, 1)", "cast(4, 0, 1)");
        for (int i = 0; i < 8; i++) {
            r.asks("castTold(0, 3)", 2 + 2 * i).make("bottle(0, 0)");
        }
        r.asks("castTold(0, 3)", 18).asks("castTold(1, 3)", 2).asks("castTold(2, 3)", 2);
        r.asks("castTold(3, 3)", 17).asks("castTold(4, 3)", 47);
        r.make("fail(0, 7)").asks("castTold(0, 3)", 18).done("does(0)", 18).asks("castTold(0, 3)", 18);
    }

    private static void terms1CoreAndMoorDepth() {
        for (int kind = 3; kind < 5; kind++) {
            Run r = withStation("Terms 1", "CORE and MOOR have their STATION's DEPTH.", 91).make("station(0, 0, 1, 1)", "station(0, 0, 900, 1)");
            String[] depths = {"MIN", "-1", "0", "1", "91", "92", "901", "MAX"};
            for (int i = 0; i < depths.length; i++) {
                r.done("cast(" + kind + ", 0, " + depths[i] + ")", i).asks("castTold(" + i + ", 2)", 91);
            }
            r.done("cast(" + kind + ", 1, 2)", 8).asks("castTold(8, 2)", 1);
            r.done("cast(" + kind + ", 2, 2)", 9).asks("castTold(9, 2)", 900);
        }
    }

    private static void promise7Cast() {
        Run r = withStation("Promise 7", "A CAST: its number. depth does not matter for CORE, MOOR. STATUS 1, 2.", 60);
        r.refused("cast(0, -1, 1)", 1).refused("cast(0, 1, 1)", 1).refused("cast(3, 1, 0)", 1).refused("cast(4, -1, 0)", 1);
        r.refused("cast(0, MIN, 1)", 1).refused("cast(4, MAX, 1)", 1).refused("cast(6, 0, 0)", 1);
        r.refused("cast(2, 0, 0)", 1).refused("cast(2, 0, 61)", 1).refused("cast(5, 0, 0)", 1).refused("cast(5, 0, 61)", 1);
        for (int i = 0; i < 30; i++) {
            r.done("cast(" + (3 + i % 2) + ", 0, " + (i - 15) + ")", i);
        }
        r.refused("cast(0, 0, 1)", 2).refused("cast(3, 0, 0)", 2).refused("cast(4, 0, 0)", 2);
        r.refused("cast(0, 0, 0)", 1).refused("cast(6, 0, 1)", 1).refused("cast(0, 1, 1)", 1).refused("cast(3, 1, 1)", 1);
    }

    private static void terms2BottlesEightAtMost() {
        Run r = withStation("Terms 2", "BOTTLES of a BOTTLES CAST (8 at most, from 0 on)", 60);
        r.make("cast(1, 0, 60)", "cast(1, 0, 60)").asks("castTold(0, 4)", 0).asks("bottleTold(0, 0, 0)", -1).refused("fail(0, 0)", 1);
        for (int i = 0; i < 7; i++) {
            r.done("bottle(0, " + (60 - i) + ")", i);
        }
        r.asks("castTold(0, 4)", 7).asks("bottleTold(0, 7, 0)", -1).refused("fail(0, 7)", 1);
        r.done("bottle(0, 5)", 7).refused("bottle(0, 5)", 2);
        r.asks("castTold(0, 4)", 8).asks("bottleTold(0, 0, 0)", 60).asks("bottleTold(0, 7, 0)", 5);
        r.asks("bottleTold(0, 8, 0)", -1).asks("bottleTold(0, -1, 0)", -1).asks("castTold(1, 4)", 0);
        r.done("fail(0, 7)", 1).refused("fail(0, 8)", 1).done("bottle(1, 60)", 0);
    }

    private static void terms2DepthOfBottles() {
        Run r = withStation("Terms 2", "each a DEPTH, not above that of the CAST, nor of the BOTTLE ahead of it", 900);
        r.make("cast(1, 0, 100)", "cast(1, 0, 900)", "cast(1, 0, 1)");
        r.refused("bottle(0, 101)", 3).refused("bottle(0, 900)", 3).refused("bottle(0, 901)", 3).refused("bottle(0, MAX)", 3);
        r.refused("bottle(0, -1)", 1).refused("bottle(0, MIN)", 1);
        r.done("bottle(0, 100)", 0).refused("bottle(0, 101)", 3).done("bottle(0, 100)", 1);
        r.done("bottle(0, 99)", 2).refused("bottle(0, 100)", 3).done("bottle(0, 1)", 3).refused("bottle(0, 2)", 3);
        r.done("bottle(0, 0)", 4).refused("bottle(0, 1)", 3).refused("bottle(0, -1)", 1).done("bottle(0, 0)", 5);
        r.done("bottle(1, 900)", 0).refused("bottle(1, 901)", 3).done("bottle(2, 1)", 0).refused("bottle(2, 2)", 3);
        r.asks("bottleTold(0, 1, 0)", 100).asks("bottleTold(0, 2, 0)", 99).asks("bottleTold(0, 5, 0)", 0).asks("bottleTold(1, 0, 0)", 900);
    }

    private static void terms2MinuteIsZeroAtFirst() {
        Run r = new Run("Terms 2", "THE MINUTE is 0 at first.");
        r.asks("count(4)", 0).done("rest(0)", 0).done("rest(1)", 1).asks("count(4)", 1);
    }

    private static void terms2DoneOnce() {
        Run r = withStation("Terms 2", "A CAST is DONE once: it begins at THE MINUTE", 60);
        r.make("cast(0, 0, 60)", "cast(0, 0, 60)", "cast(5, 0, 60)").asks("castTold(0, 5)", -1);
        r.done("does(0)", 2).asks("castTold(0, 5)", 0).asks("castTold(1, 5)", -1).refused("does(0)", 3);
        r.make("rest(1)").done("does(1)", 5).asks("castTold(1, 5)", 3).refused("does(1)", 3);
        r.done("does(2)", 5).asks("castTold(2, 5)", 5).refused("does(2)", 3);
        r.asks("castTold(0, 5)", 0);
        Run parted = withStation("Terms 2", "A CAST is DONE once: it begins at THE MINUTE", 60).make("hand(0)").lines(0, "take 4;", 1);
        parted.make("cast(1, 0, 60)", "bottle(0, 60)", "bottle(0, 0)", "cast(4, 0, 0)", "does(0)", "does(1)", "takeUp(1)", "use(0, false)");
        parted.refused("does(0)", 3).refused("does(1)", 3).asks("bottleTold(0, 0, 3)", 6).asks("count(3)", 2).asks("count(9)", 0);
    }

    private static void terms2MinuteBecomes() {
        Run r = withStation("Terms 2", "THE MINUTE becomes that of the beginning and its MINUTES.", 900);
        r.make("cast(5, 0, 1)", "cast(0, 0, 60)", "cast(0, 0, 61)", "cast(4, 0, 1)", "cast(1, 0, 1)", "bottle(4, 0)");
        r.done("does(0)", 0).done("does(1)", 2).done("does(2)", 6).done("does(3)", 71).done("does(4)", 75).asks("count(4)", 75);
    }

    /** A CAST of DEPTH 121 (3 MINUTES down) that begins at MINUTE 7. */
    private static void terms2ShutAt() {
        Run r = withStation("Terms 2", "a BOTTLE is shut at the MINUTE of its beginning, the MINUTES down, "
            + "(DEPTH of the CAST less its own) by 60, rounded up, and 2 for each BOTTLE ahead of it together", 121);
        int[] depths = {121, 120, 62, 61, 60, 2, 1, 0};
        int[] up = {0, 1, 1, 1, 2, 2, 2, 3};
        r.make("cast(1, 0, 121)", "rest(7)");
        for (int i = 0; i < 8; i++) {
            r.make("bottle(0, " + depths[i] + ")");
        }
        r.asks("bottleTold(0, 0, 2)", -1).make("does(0)").asks("count(4)", 7 + 6 + 16);
        for (int i = 0; i < 8; i++) {
            r.asks("bottleTold(0, " + i + ", 2)", 7 + 3 + up[i] + 2 * i);
        }
        Run failed = withStation("Terms 2", "and 2 for each BOTTLE ahead of it together", 60);
        failed.make("cast(1, 0, 60)", "bottle(0, 60)", "bottle(0, 60)", "fail(0, 0)", "does(0)");
        failed.asks("bottleTold(0, 0, 2)", -1).asks("bottleTold(0, 1, 2)", 3);
        Run deep = withStation("Terms 2", "(DEPTH of the CAST less its own) by 60, rounded up", 900);
        deep.make("cast(1, 0, 900)", "bottle(0, 900)", "bottle(0, 0)", "does(0)");
        deep.asks("bottleTold(0, 0, 2)", 15).asks("bottleTold(0, 1, 2)", 32).asks("count(4)", 34);
    }

    private static void terms2ToldToFail() {
        Run r = withStation("Terms 2", "it may be told to FAIL.", 60).make("cast(1, 0, 60)");
        for (int i = 0; i < 8; i++) {
            r.make("bottle(0, 0)").asks("bottleTold(0, " + i + ", 1)", 0);
        }
        r.done("fail(0, 0)", 1).done("fail(0, 7)", 1).asks("bottleTold(0, 0, 1)", 1).asks("bottleTold(0, 7, 1)", 1);
        r.asks("bottleTold(0, 1, 1)", 0).asks("bottleTold(0, 6, 1)", 0).refused("fail(0, 0)", 3).refused("fail(0, 8)", 1);
    }

    private static void terms2TenPartsUnlessItFails() {
        Run r = withStation("Terms 2", "if it does not FAIL it has 10 parts of WATER", 60);
        r.make("cast(1, 0, 60)", "bottle(0, 0)", "bottle(0, 0)").asks("bottleTold(0, 0, 1)", 0).asks("bottleTold(0, 0, 3)", 0);
        r.make("fail(0, 1)", "does(0)").asks("bottleTold(0, 0, 3)", 10).asks("bottleTold(0, 1, 3)", 0).asks("bottleTold(0, 1, 1)", 1);
    }

    private static void promise8Bottle() {
        Run r = withStation("Promise 8", "A BOTTLE of a CAST: its number. STATUS 1 (also: no BOTTLES CAST; a DEPTH below 0), 2, "
            + "3 (the CAST is DONE; it is too deep).", 100);
        for (int kind = 0; kind < 6; kind++) {
            r.make("cast(" + kind + ", 0, 100)");
        }
        for (int cast : new int[] {-1, 0, 2, 3, 4, 5, 6}) {
            r.refused("bottle(" + cast + ", 0)", 1).refused("bottle(" + cast + ", 101)", 1);
        }
        r.refused("bottle(MIN, 0)", 1).refused("bottle(MAX, 0)", 1).refused("bottle(1, -1)", 1).refused("bottle(1, 101)", 3);
        r.make("cast(1, 0, 100)", "cast(1, 0, 100)", "does(7)");
        r.refused("bottle(7, 0)", 3).refused("bottle(7, 101)", 3).refused("bottle(7, -1)", 1);
        for (int i = 0; i < 8; i++) {
            r.done("bottle(1, 50)", i).done("bottle(6, 50)", i);
        }
        r.refused("bottle(1, 50)", 2).refused("bottle(1, 51)", 2).refused("bottle(1, -1)", 1);
        r.make("does(1)").refused("bottle(1, 50)", 2).refused("bottle(1, 101)", 2).refused("bottle(1, -1)", 1);
    }

    private static void promise9Fail() {
        Run r = withStation("Promise 9", "A BOTTLE will FAIL: 1. STATUS 1, 3 (it does so already; the CAST is DONE).", 100);
        r.make("cast(1, 0, 100)", "cast(0, 0, 100)", "bottle(0, 9)", "bottle(0, 8)", "cast(1, 0, 100)");
        r.refused("fail(-1, 0)", 1).refused("fail(3, 0)", 1).refused("fail(1, 0)", 1).refused("fail(2, 0)", 1);
        r.refused("fail(0, -1)", 1).refused("fail(0, 2)", 1).refused("fail(0, MIN)", 1).refused("fail(MAX, 0)", 1);
        r.done("fail(0, 1)", 1).refused("fail(0, 1)", 3).asks("bottleTold(0, 0, 1)", 0).asks("bottleTold(0, 1, 1)", 1);
        r.make("does(0)").refused("fail(0, 0)", 3).refused("fail(0, 1)", 3).refused("fail(0, 2)", 1).refused("fail(0, -1)", 1);
        r.asks("bottleTold(0, 0, 1)", 0);
    }

    /** From THE MINUTE now on to n, by rests alone. */
    private static void rest(Run r, int now, int n) {
        for (int left = n - now; left > 0; left -= 1000) {
            r.make("rest(" + Math.min(1000, left) + ")");
        }
        r.asks("count(4)", n);
    }

    private static void promise14Does() {
        Run r = withStation("Promise 14", "A CAST is DONE: THE MINUTE. STATUS 1, 2 (THE MINUTE would be above 12000, of a DONE one, too), "
            + "3 (it is DONE).", 60);
        r.make("cast(0, 0, 60)", "cast(0, 0, 60)", "cast(5, 0, 60)", "cast(5, 0, 60)", "cast(1, 0, 60)", "bottle(4, 0)");
        r.refused("does(-1)", 1).refused("does(5)", 1).refused("does(MIN)", 1).refused("does(MAX)", 1);
        r.make("does(0)", "does(2)").refused("does(0)", 3).refused("does(2)", 3).refused("does(5)", 1);
        rest(r, 2, 11997);
        r.refused("does(4)", 2).refused("does(0)", 3);
        r.make("rest(1)").refused("does(0)", 3).refused("does(4)", 2);
        r.done("does(1)", 12000).refused("does(1)", 2).refused("does(0)", 2).refused("does(4)", 2);
        r.refused("does(2)", 3).refused("does(5)", 1).done("does(3)", 12000).refused("does(3)", 3);
        r.asks("castTold(4, 5)", -1).asks("bottleTold(4, 0, 2)", -1).asks("castTold(3, 5)", 12000);

        Run late = withStation("Promise 14", "2 (THE MINUTE would be above 12000, of a DONE one, too)", 60);
        late.make("cast(0, 0, 60)", "cast(0, 0, 60)", "does(1)");
        rest(late, 2, 11999);
        late.refused("does(0)", 2).refused("does(1)", 2).asks("castTold(0, 5)", -1).asks("castTold(1, 5)", 0);
    }

    private static void promise15Rest() {
        Run r = new Run("Promise 15", "THE MINUTE goes on by n (0 .. 1000): what it is. STATUS 1, 2 (it would be above 12000).");
        r.done("rest(0)", 0).done("rest(1)", 1).done("rest(999)", 1000).done("rest(1000)", 2000);
        r.refused("rest(-1)", 1).refused("rest(1001)", 1).refused("rest(MIN)", 1).refused("rest(MAX)", 1).asks("count(4)", 2000);
        for (int i = 3; i < 12; i++) {
            r.done("rest(1000)", 1000 * i);
        }
        r.done("rest(1)", 11001).refused("rest(1000)", 2).done("rest(998)", 11999).refused("rest(2)", 2).refused("rest(1000)", 2);
        r.done("rest(0)", 11999).done("rest(1)", 12000).refused("rest(1)", 2).done("rest(0)", 12000);
        r.refused("rest(1001)", 1).refused("rest(-1)", 1);
        Run whole = new Run("Promise 15", "2 (it would be above 12000)");
        rest(whole, 0, 11000);
        whole.done("rest(1000)", 12000).refused("rest(1000)", 2);
    }

    private static void promise22CastTold() {
        Run r = withStation("Promise 22", "Of a CAST: 0 KIND, 1 STATION, 2 DEPTH, 3 MINUTES, 4 BOTTLES (0), "
            + "5 the MINUTE in which it began (NONE: it is not DONE), 6 READINGS, 7 whether it is LEFT (of others 0). -1 also: no such.", 90);
        r.make("station(0, 0, 90, 1)", "cast(4, 1, 0)", "cast(1, 0, 30)", "bottle(1, 0)", "bottle(1, 0)", "cast(3, 1, 0)");
        castTold(r, 0, 4, 1, 90, 47, 0, -1, 0, 0);
        castTold(r, 1, 1, 0, 30, 6, 2, -1, 0, 0);
        castTold(r, 2, 3, 1, 90, 17, 0, -1, 0, 0);
        r.make("does(1)", "does(0)", "does(2)", "sheet(0, 2, 4)", "readings(1, 0)");
        castTold(r, 0, 4, 1, 90, 47, 0, 6, 0, 1);
        castTold(r, 1, 1, 0, 30, 6, 2, 0, 4, 0);
        castTold(r, 2, 3, 1, 90, 17, 0, 53, 0, 0);
        r.make("takeUp(0)");
        castTold(r, 0, 4, 1, 90, 47, 0, 6, 0, 0);
        r.asks("castTold(3, 0)", -1).asks("castTold(-1, 0)", -1).asks("castTold(3, 5)", -1).asks("castTold(0, MIN)", -1);
    }

    private static void castTold(Run r, int cast, int... due) {
        for (int what = 0; what < due.length; what++) {
            r.asks("castTold(" + cast + ", " + what + ")", due[what]);
        }
        r.asks("castTold(" + cast + ", -1)", -1).asks("castTold(" + cast + ", 8)", -1).asks("castTold(" + cast + ", MAX)", -1);
    }

    private static void promise23BottleTold() {
        Run r = withStation("Promise 23", "Of a BOTTLE of a CAST: 0 DEPTH, 1 whether it FAILS, "
            + "2 the MINUTE in which it was shut (NONE: not yet, or it failed), 3 parts of WATER that are left (0). -1 also: no such.", 60);
        r.make("cast(1, 0, 60)", "cast(0, 0, 60)", "bottle(0, 60)", "bottle(0, 1)", "fail(0, 1)");
        bottleTold(r, 0, 60, 0, -1, 0);
        bottleTold(r, 1, 1, 1, -1, 0);
        r.make("does(0)");
        bottleTold(r, 0, 60, 0, 1, 10);
        bottleTold(r, 1, 1, 1, -1, 0);
        for (int what = 0; what < 4; what++) {
            r.asks("bottleTold(0, 2, " + what + ")", -1).asks("bottleTold(0, -1, " + what + ")", -1);
            r.asks("bottleTold(1, 0, " + what + ")", -1).asks("bottleTold(2, 0, " + what + ")", -1);
            r.asks("bottleTold(-1, 0, " + what + ")", -1).asks("bottleTold(MAX, 0, " + what + ")", -1);
            r.asks("bottleTold(0, MIN, " + what + ")", -1).asks("bottleTold(0, MAX, " + what + ")", -1);
        }
        Run taken = withStation("Promise 23", "3 parts of WATER that are left (0)", 60);
        taken.make("cast(1, 0, 60)", "bottle(0, 0)", "bottle(0, 0)", "hand(0)").lines(0, "take 10 when hour=0 and left=10;", 1);
        taken.make("hand(0)").lines(1, "take 1;", 1).make("does(0)").asks("bottleTold(0, 0, 3)", 0).asks("bottleTold(0, 1, 3)", 0);
        Run one = withStation("Promise 23", "3 parts of WATER that are left (0)", 60);
        one.make("cast(1, 0, 60)", "bottle(0, 0)", "hand(0)").lines(0, "take 9;", 1).make("does(0)").asks("bottleTold(0, 0, 3)", 1);
    }

    private static void bottleTold(Run r, int bottle, int... due) {
        for (int what = 0; what < due.length; what++) {
            r.asks("bottleTold(0, " + bottle + ", " + what + ")", due[what]);
        }
        r.asks("bottleTold(0, " + bottle + ", -1)", -1).asks("bottleTold(0, " + bottle + ", 4)", -1);
        r.asks("bottleTold(0, " + bottle + ", MIN)", -1).asks("bottleTold(0, " + bottle + ", MAX)", -1);
    }

    static void all() {
        terms1CastsThirtyAtMost();
        terms1DepthOfCasts();
        terms1Kinds();
        terms1Minutes();
        terms1MinutesMore();
        terms1CoreAndMoorDepth();
        promise7Cast();
        terms2BottlesEightAtMost();
        terms2DepthOfBottles();
        terms2MinuteIsZeroAtFirst();
        terms2DoneOnce();
        terms2MinuteBecomes();
        terms2ShutAt();
        terms2ToldToFail();
        terms2TenPartsUnlessItFails();
        promise8Bottle();
        promise9Fail();
        promise14Does();
        promise15Rest();
        promise22CastTold();
        promise23BottleTold();
    }
}
