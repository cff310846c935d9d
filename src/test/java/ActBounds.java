/** The bounds of ACTS and THE TRACE (Terms 5), and of promises 29, 30 and 34. */
final class ActBounds {
    private static final int MIN = Integer.MIN_VALUE;
    private static final int MAX = Integer.MAX_VALUE;

    private ActBounds() {
    }

    /** A CAST of each KIND, of its number and of DEPTH 100; the BOTTLES CAST has one BOTTLE. */
    private static Run allKinds(String part, String sentence) {
        Run r = new Run(part, sentence).make("station(0, 0, 100, 1)");
        for (int kind = 0; kind < 6; kind++) {
            r.make("cast(" + kind + ", 0, 100)");
        }
        return r.make("bottle(1, 0)");
    }

    private static void terms5FourActs() {
        Run r = allKinds("Terms 5", "ACTS of CASTS, with a number x (32 bits, wrapping): 0 down, 1 up, 2 shut, 3 tell");
        r.refused("act(0, -1, 5)", 1).refused("act(0, 4, 5)", 1).refused("act(0, MIN, 5)", 1).refused("act(0, MAX, 5)", 1);
        r.done("act(0, 0, 5)", 105).done("act(0, 1, 5)", 210).done("act(0, 2, 5)", 5).done("act(0, 3, 5)", 210 ^ 5);
    }

    private static void terms5Numbers() {
        Run r = allKinds("Terms 5", "n is its number, d its DEPTH, m its MINUTES");
        r.done("act(0, 2, 5)", 5).done("act(5, 2, 5)", 0).done("act(0, 0, 0)", 100).done("act(1, 2, 0)", -1 + 6);
        r.make("bottle(1, 0)").done("act(1, 2, 0)", -1 + 8).make("does(1)").done("act(1, 2, 0)", -1 + 8);
        Run last = new Run("Terms 5", "n is its number, d its DEPTH, m its MINUTES").make("station(0, 0, 900, 1)", "station(0, 0, 1, 1)");
        for (int i = 0; i < 29; i++) {
            last.make("cast(5, 1, 1)");
        }
        last.make("cast(1, 0, 900)").done("act(29, 2, 0)", -29 + 30).done("act(29, 0, 0)", 900).done("act(28, 0, 0)", 1);
    }

    /** The bodies in the numbers that a long holds without wrapping; so the wrapping comes from the cast alone. */
    private static long down(int kind, long x) {
        return kind == 2 ? (int) (x + 100) * 3L : x + 100;
    }

    private static long shut(int kind, long x) {
        long cast = x - kind;
        return kind == 1 ? (int) cast + 6L : kind == 4 ? (int) cast * 2L : cast;
    }

    private static long up(int kind, long x) {
        long cast = (int) down(kind, x) * 2L;
        long core = (int) cast - (long) (int) shut(kind, x);
        return kind == 3 ? core : kind == 4 ? (int) core + x + 100 : cast;
    }

    private static long tell(int kind, long x) {
        int of = (int) (kind == 1 ? x + 1 : x);
        long cast = (int) up(kind, of) ^ (int) shut(kind, of);
        return kind == 5 ? (int) down(kind, x) - cast : cast;
    }

    private static void terms5Wrapping() {
        int[] numbers = {0, 1, -1, 5, MAX, MAX - 1, MAX - 99, MAX - 100, MAX - 101, MIN, MIN + 1, MIN + 4, MIN + 5, MAX / 2, MAX / 2 - 100,
            MAX / 2 - 99, MIN / 2, MIN / 2 - 100, MIN / 2 - 101, MAX / 3, MAX / 3 - 100, MAX / 3 - 99, MIN / 3 - 100, MIN / 3 - 101};
        for (int x : numbers) {
            Run r = allKinds("Terms 5", "with a number x (32 bits, wrapping)");
            for (int kind = 0; kind < 6; kind++) {
                r.done("act(" + kind + ", 0, " + x + ")", (int) down(kind, x));
                r.done("act(" + kind + ", 1, " + x + ")", (int) up(kind, x));
                r.done("act(" + kind + ", 2, " + x + ")", (int) shut(kind, x));
                r.done("act(" + kind + ", 3, " + x + ")", (int) tell(kind, x));
            }
        }
    }

    private static void body(String sentence, int cast, int act, int answer, int number) {
        Run r = allKinds("Terms 5", sentence).done("act(" + cast + ", " + act + ", 7)", answer);
        r.asks("trace(0)", number);
    }

    private static void terms5EachBody() {
        Sentences.hold("Terms 5", "BODIES, each with its number");
        body("CAST: 10 down: x + d.", 0, 0, 107, 10);
        body("11 up: down(x) * 2.", 0, 1, 214, 11);
        body("12 shut: x - n.", 5, 2, 2, 12);
        body("13 tell: up(x) ^ shut(x).", 0, 3, 209, 13);
        body("BOTTLES: 20 shut: super.shut(x) + m.", 1, 2, 12, 20);
        body("21 tell: super.tell(x + 1).", 1, 3, 213, 21);
        body("NET: 30 down: super.down(x) * 3.", 2, 0, 321, 30);
        body("CORE: 40 up: super.up(x) - shut(x).", 3, 1, 210, 40);
        body("MOOR: 50 shut: super.shut(x) * 2.", 4, 2, 6, 50);
        body("51 up: super.up(x) + super.down(x).", 4, 1, 315, 51);
        body("UNDERWAY: 60 tell: down(x) - super.tell(x).", 5, 3, -105, 60);
    }

    private static void trace(Run r, int cast, int act, int... bodies) {
        r.make("act(" + cast + ", " + act + ", 7)").asks("count(7)", bodies.length);
        for (int i = 0; i < bodies.length; i++) {
            r.asks("trace(" + i + ")", bodies[i]);
        }
        r.asks("trace(" + bodies.length + ")", -1).asks("trace(-1)", -1).asks("trace(49)", -1).asks("trace(50)", -1);
        r.asks("trace(MIN)", -1).asks("trace(MAX)", -1);
    }

    /** A KIND that has no body takes that of the next above; from super on it is so from the KIND above the body's. */
    private static void terms5BodiesOfEachKind() {
        Run r = allKinds("Terms 5", "down(..) and so on: the body of the CAST's KIND, or, if that has none, of the next KIND above that has one; "
            + "super.down(..): so from the KIND above the body's on.");
        trace(r, 0, 0, 10);
        trace(r, 0, 1, 11, 10);
        trace(r, 0, 2, 12);
        trace(r, 0, 3, 13, 11, 10, 12);
        trace(r, 1, 0, 10);
        trace(r, 1, 1, 11, 10);
        trace(r, 1, 2, 20, 12);
        trace(r, 1, 3, 21, 13, 11, 10, 20, 12);
        trace(r, 2, 0, 30, 10);
        trace(r, 2, 1, 11, 30, 10);
        trace(r, 2, 2, 12);
        trace(r, 2, 3, 13, 11, 30, 10, 12);
        Run more = allKinds("Terms 5", "super.down(..): so from the KIND above the body's on.");
        trace(more, 3, 0, 10);
        trace(more, 3, 1, 40, 11, 10, 12);
        trace(more, 3, 2, 12);
        trace(more, 3, 3, 13, 40, 11, 10, 12, 12);
        trace(more, 4, 0, 10);
        trace(more, 4, 1, 51, 40, 11, 10, 50, 12, 10);
        trace(more, 4, 2, 50, 12);
        trace(more, 4, 3, 13, 51, 40, 11, 10, 50, 12, 10, 50, 12);
        trace(more, 5, 0, 10);
        trace(more, 5, 1, 11, 10);
        trace(more, 5, 2, 12);
        trace(more, 5, 3, 60, 10, 13, 11, 10, 12);
    }

    /** The longest there is has 10 bodies: the bound of 50 can't be reached. */
    private static void terms5TraceOfTheLatest() {
        Run r = allKinds("Terms 5", "THE TRACE: the numbers of the bodies that ran in the latest act(), in the order in which they began "
            + "(what stands further left is worked out first); the first 50 are kept.");
        r.asks("count(7)", 0).asks("trace(0)", -1);
        r.make("act(4, 3, 7)").asks("count(7)", 10).asks("trace(9)", 12).asks("trace(10)", -1);
        r.make("act(0, 2, 7)").asks("count(7)", 1).asks("trace(0)", 12).asks("trace(1)", -1);
        r.refused("act(0, 4, 7)", 1).refused("act(6, 0, 7)", 1).asks("count(7)", 1).asks("trace(0)", 12);
    }

    private static void promise29Act() {
        Run r = allKinds("Promise 29", "An ACT of a CAST with x: what it answers (any number). STATUS 1.");
        r.refused("act(-1, 0, 0)", 1).refused("act(6, 0, 0)", 1).refused("act(MIN, 0, 0)", 1).refused("act(MAX, 0, 0)", 1);
        r.refused("act(5, -1, 0)", 1).refused("act(5, 4, 0)", 1).refused("act(6, 4, 0)", 1);
        r.done("act(5, 0, MAX)", MIN + 99).done("act(0, 2, -1)", -1).done("act(0, 2, MIN)", MIN).done("act(0, 2, -1000000)", -1000000);
        r.done("act(0, 0, -101)", -1).done("act(0, 0, -100)", 0);
    }

    private static void promise30Trace() {
        Run r = allKinds("Promise 30", "THE TRACE's i-th body. -1: none such.");
        r.asks("trace(-1)", -1).asks("trace(0)", -1).asks("trace(1)", -1).asks("trace(49)", -1).asks("trace(50)", -1);
        trace(r, 0, 1, 11, 10);
        trace(r, 0, 0, 10);
    }

    private static void promise34HundredEachWay() {
        Run r = allKinds("Promise 34", "(STATUS 1: another; n or k outside -100 .. 100; modulo also for numbers below 0, all)");
        r.make("sheet(0, 1, 100)", "sheet(1, 0, 100)");
        for (int what = 0; what < 7; what++) {
            for (String n : new String[] {"-101", "101", "MIN", "MAX"}) {
                r.refused("forge(" + what + ", " + n + ", 0)", 1).refused("forge(" + what + ", 1, " + n + ")", 1);
            }
            r.refused("forge(" + what + ", -101, 101)", 1);
        }
        for (String what : new String[] {"-1", "7", "MIN", "MAX"}) {
            r.refused("forge(" + what + ", 1, 1)", 1).refused("forge(" + what + ", 0, 100)", 1).refused("forge(" + what + ", 101, 0)", 1);
        }
        // -100 modulo 6 is 2, 100 modulo 6 is 4; -100 modulo 30 is 20, 100 modulo 30 is 10; both modulo 4 are 0.
        r.done("forge(0, -100, 2)", 2).done("forge(0, 100, 4)", 4).refused("forge(0, 0, -100)", 10).refused("forge(0, 0, 100)", 10);
        r.done("forge(1, 100, 100)", 100).refused("forge(1, -100, -100)", 13).done("forge(2, 99, -100)", 0).refused("forge(2, 100, 100)", 12);
        r.refused("forge(3, 100, 1)", 12).refused("forge(3, -100, 1)", 12).refused("forge(3, 0, 100)", 11).refused("forge(3, 0, -100)", 11);
        r.done("forge(4, -100, 100)", 0).done("forge(4, 100, -100)", 0);
        r.done("forge(5, 100, 100)", 10).done("forge(5, -100, -100)", -10).refused("forge(6, 100, 0)", 10).refused("forge(6, -100, 0)", 10);
        r.done("forge(6, 99, 100)", 1).done("forge(6, -99, -100)", 1);
    }

    /** With CASTS that are DONE, READINGS, SAMPLES, THE TRACE and all sorts of SHEETS. */
    private static void promise34ChangesNothing() {
        Run r = allKinds("Promise 34", "What the host does, by what").make("hand(0)").lines(0, "take 3;", 1);
        r.make("sheet(2, 2, 3)", "cell(2, 1, 9)", "none(2, 2)", "does(0)", "does(1)", "does(4)", "readings(0, 2)", "readings(1, 2)", "readings(4, 2)");
        r.make("sheet(0, 0, 4)", "cell(0, 1, 5)", "cell(0, 2, 6)", "sheet(1, 1, 4)", "cell(1, 1, 7)", "act(4, 3, 9)", "rest(100)");
        for (int k = 0; k < 6; k++) {
            r.keeps("forge(0, 0, " + k + ")", k);
        }
        r.refused("forge(0, 2, 0)", 11).refused("forge(0, 1, 4)", 11).keeps("forge(0, 3, 4)", 4).refused("forge(0, 0, 6)", 10);
        r.keeps("forge(1, 100, 0)", 100).refused("forge(1, -1, 0)", 13).keeps("forge(2, 1, 1)", 7).refused("forge(2, 4, 1)", 12);
        r.refused("forge(2, 1, 0)", 11).refused("forge(2, 1, 2)", 11).refused("forge(2, 1, 3)", 10);
        r.keeps("forge(3, 0, 0)", 0).keeps("forge(3, 2, 0)", 11).refused("forge(3, 4, 0)", 12).refused("forge(3, 1, 2)", 11).refused("forge(3, 1, 3)", 10);
        r.keeps("forge(4, 0, 3)", 3).keeps("forge(4, 0, 4)", 4).keeps("forge(4, 0, 6)", 0).refused("forge(4, 0, 0)", 14).refused("forge(4, 0, 1)", 14);
        r.keeps("forge(5, 3, 0)", 333).refused("forge(5, 0, 0)", 15).keeps("forge(6, 1, 0)", 1).refused("forge(6, 0, 0)", 10).refused("forge(7, 0, 0)", 1);
    }

    private static void promise34Kinds() {
        String sentence = "0 CAST k modulo 30 is taken for one whose KIND is n modulo 6 (also for numbers below 0) or one under that one "
            + "(also by others between): 10 (there is no such CAST), 11; answers its KIND.";
        int[][] under = {{0}, {0, 1}, {0, 2}, {0, 3}, {0, 3, 4}, {0, 5}};
        for (int kind = 0; kind < 6; kind++) {
            for (int n = -13; n <= 13; n++) {
                Run r = allKinds("Promise 34", sentence);
                int as = (n + 18) % 6;
                boolean is = false;
                for (int u : under[kind]) {
                    is |= u == as;
                }
                for (int k : new int[] {kind, kind + 30, kind + 90, kind - 30, kind - 90}) {
                    if (is) {
                        r.done("forge(0, " + n + ", " + k + ")", kind);
                    } else {
                        r.refused("forge(0, " + n + ", " + k + ")", 11);
                    }
                }
            }
        }
        Run none = allKinds("Promise 34", sentence);
        for (int k : new int[] {6, 29, -1, -24, 36, -54, 66}) {
            none.refused("forge(0, 0, " + k + ")", 10).refused("forge(0, 1, " + k + ")", 10);
        }
        Run full = new Run("Promise 34", sentence).make("station(0, 0, 100, 1)");
        for (int i = 0; i < 29; i++) {
            full.make("cast(0, 0, 1)");
        }
        full.refused("forge(0, 5, -1)", 10).make("cast(5, 0, 1)");
        full.done("forge(0, 5, -1)", 5).done("forge(0, 5, 29)", 5).done("forge(0, 5, 89)", 5).done("forge(0, -1, -31)", 5);
        full.refused("forge(0, 5, 28)", 11).refused("forge(0, 5, 30)", 11).refused("forge(0, 5, 0)", 11);
    }

    private static void promise34Rows() {
        Run r = new Run("Promise 34", "1 a row of n numbers is made: 13; answers n.");
        r.refused("forge(1, -1, 0)", 13).refused("forge(1, -100, 0)", 13).refused("forge(1, -101, 0)", 1).refused("forge(1, 101, 0)", 1);
        r.done("forge(1, 0, 0)", 0).done("forge(1, 1, 0)", 1).done("forge(1, 99, 0)", 99).done("forge(1, 100, 0)", 100);
    }

    private static void promise34Shorts() {
        Run r = new Run("Promise 34", "2 SHEET k modulo 4 is taken for one of sort 1: 11; its number n: 10, 12; answers it.");
        r.make("sheet(0, 0, 3)", "sheet(1, 1, 3)", "sheet(2, 2, 3)", "cell(1, 0, -1)", "cell(1, 1, 1000)", "cell(1, 2, -1000)");
        for (int k : new int[] {1, 5, 97, -3, -99}) {
            r.done("forge(2, 0, " + k + ")", -1).done("forge(2, 1, " + k + ")", 1000).done("forge(2, 2, " + k + ")", -1000);
            r.refused("forge(2, -1, " + k + ")", 12).refused("forge(2, 3, " + k + ")", 12);
            r.refused("forge(2, 100, " + k + ")", 12).refused("forge(2, -100, " + k + ")", 12);
        }
        for (int n : new int[] {-1, 0, 2, 3}) {
            r.refused("forge(2, " + n + ", 0)", 11).refused("forge(2, " + n + ", 2)", 11).refused("forge(2, " + n + ", -4)", 11);
            r.refused("forge(2, " + n + ", 3)", 10).refused("forge(2, " + n + ", -1)", 10).refused("forge(2, " + n + ", 99)", 10);
        }
        r.make("sheet(1, 1, 0)").refused("forge(2, 0, 1)", 12).refused("forge(2, -1, 1)", 12);
        r.make("sheet(1, -1, 0)").refused("forge(2, 0, 1)", 10).make("sheet(1, 1, 100)").done("forge(2, 99, 1)", 0).refused("forge(2, 100, 1)", 12);
    }

    /** n numbers from number 1 on end within a SHEET that has n + 1, and from place n on within a row of 6 if n is 3 at most. */
    private static void promise34Copies() {
        String sentence = "3 n numbers of SHEET k modulo 4, taken for one of sort 0 (11), from its number 1 on, are copied to a row of 6 from place n on: "
            + "10, 12 (n below 0, or they do not stand there in both; also if it has no numbers at all); answers their sum.";
        int[] sums = {0, 1, -127, -27};
        for (int size = 0; size <= 6; size++) {
            Run r = new Run("Promise 34", sentence).make("sheet(0, 0, " + size + ")", "sheet(1, 1, 5)", "sheet(2, 2, 5)");
            int[] values = {50, 1, -128, 100, 7, 8};
            for (int i = 0; i < size; i++) {
                r.make("cell(0, " + i + ", " + values[Math.min(5, i)] + ")");
            }
            for (int n = -1; n <= 6; n++) {
                boolean is = n >= 0 && n <= 3 && n + 1 <= size;
                for (int k : new int[] {0, 4, -4}) {
                    if (is) {
                        r.done("forge(3, " + n + ", " + k + ")", sums[n]);
                    } else {
                        r.refused("forge(3, " + n + ", " + k + ")", 12);
                    }
                }
                r.refused("forge(3, " + n + ", 1)", 11).refused("forge(3, " + n + ", -2)", 11);
                r.refused("forge(3, " + n + ", 3)", 10).refused("forge(3, " + n + ", -1)", 10);
            }
        }
        Run large = new Run("Promise 34", sentence).make("sheet(0, 0, 100)");
        large.done("forge(3, 3, 0)", 0).refused("forge(3, 4, 0)", 12).refused("forge(3, 6, 0)", 12).refused("forge(3, 99, 0)", 12);
        large.refused("forge(3, 100, 0)", 12).refused("forge(3, -1, 0)", 12).make("sheet(0, -1, 0)").refused("forge(3, 0, 0)", 10);
    }

    private static void promise34CoreRow() {
        Run r = allKinds("Promise 34", "4 CAST k modulo 30 is put into a row that takes CORES and MOORS: 14; answers its KIND (0: there is no such).");
        for (int k : new int[] {0, 1, 2, 5, 30, 31, -28, -25, 65}) {
            r.refused("forge(4, 0, " + k + ")", 14);
        }
        for (int k : new int[] {3, 33, 93, -27, -87}) {
            r.done("forge(4, 0, " + k + ")", 3).done("forge(4, 100, " + (k + 1) + ")", 4);
        }
        for (int k : new int[] {6, 29, -1, -24, 36, 100, -100}) {
            r.done("forge(4, -100, " + k + ")", 0);
        }
    }

    private static void promise34Divided() {
        Run r = new Run("Promise 34", "5 1000 is divided by n, cut toward 0: 15.");
        int[][] table = {{1, 1000}, {-1, -1000}, {2, 500}, {3, 333}, {-3, -333}, {7, 142}, {-7, -142}, {99, 10}, {-99, -10}, {100, 10},
            {-100, -10}, {91, 10}, {90, 11}, {-90, -11}};
        r.refused("forge(5, 0, 0)", 15).refused("forge(5, 0, 100)", 15).refused("forge(5, 0, 101)", 1);
        for (int[] row : table) {
            r.done("forge(5, " + row[0] + ", 0)", row[1]);
        }
    }

    private static void promise34Failures() {
        Run r = new Run("Promise 34", "6 a failure is thrown: n modulo 2 is 0: none is there: 10; 1: one that is caught at once; answers 1.");
        for (int n : new int[] {0, 2, -2, 98, 100, -98, -100}) {
            r.refused("forge(6, " + n + ", 0)", 10);
        }
        for (int n : new int[] {1, -1, 3, -3, 99, -99}) {
            r.done("forge(6, " + n + ", 0)", 1);
        }
    }

    static void all() {
        terms5FourActs();
        terms5Numbers();
        terms5Wrapping();
        terms5EachBody();
        terms5BodiesOfEachKind();
        terms5TraceOfTheLatest();
        promise29Act();
        promise30Trace();
        promise34HundredEachWay();
        promise34ChangesNothing();
        promise34Kinds();
        promise34Rows();
        promise34Shorts();
        promise34Copies();
        promise34CoreRow();
        promise34Divided();
        promise34Failures();
    }
}
