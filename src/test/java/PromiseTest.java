/** Each promise by itself: ordinary calls, the edges that the document names, and wrong calls. */
final class PromiseTest {
    private static final int NO = WaterCruise.NO;

    private static WaterCruise withStations(int... depths) {
        WaterCruise w = new WaterCruise();
        for (int depth : depths) {
            w.station(0, 0, depth, 1);
        }
        return w;
    }

    private static void promise1NewObject() {
        WaterCruise w = new WaterCruise();
        int[] counts = {0, 0, 0, 0, 0, 5, 0, 0, 0, 0, 201, 0};
        for (int i = 0; i < counts.length; i++) {
            Check.due("1 count(" + i + ")", w.count(i), counts[i]);
        }
        Check.due("1 status", w.status(), 0);
        Check.due("1 NONE", WaterCruise.NONE, -1);
        Check.due("1 NO", WaterCruise.NO, -1000000);
        Check.due("1 fault(0)", w.fault(0), 0);
        Check.due("1 fault(1)", w.fault(1), -1);
        Check.due("1 plan", w.plan(0) + w.plan(1) + w.plan(2), 0);
        Check.refused("1 no station", w, w.cast(0, 0, 1), 1);
        Check.refused("1 no hand", w, w.lines(0), 1);
        Check.refused("1 no sheet", w, w.cell(0, 0, 0), 10);
    }

    private static void promise2Station() {
        WaterCruise w = new WaterCruise();
        Check.done("2 least", w, w.station(-50, -50, 1, 1), 0);
        Check.done("2 most", w, w.station(50, 50, 900, 99), 1);
        int[][] wrong = {{-51, 0, 1, 1}, {51, 0, 1, 1}, {0, -51, 1, 1}, {0, 51, 1, 1}, {0, 0, 0, 1}, {0, 0, 901, 1},
            {0, 0, 1, 0}, {0, 0, 1, 100}};
        for (int[] s : wrong) {
            Check.refused("2 wrong", w, w.station(s[0], s[1], s[2], s[3]), 1);
        }
        for (int i = 2; i < 8; i++) {
            Check.done("2 more", w, w.station(i, i, i, i), i);
        }
        Check.refused("2 full", w, w.station(0, 0, 1, 1), 2);
        Check.refused("2 full and wrong", w, w.station(0, 0, 0, 1), 1);
        Check.due("2 count", w.count(0), 8);
    }

    private static void promise3Window() {
        WaterCruise w = withStations(10, 10);
        Check.done("3 all", w, w.window(1, 0, 200, 2), 1);
        Check.done("3 one hour", w, w.window(1, 7, 7, 1), 1);
        int[][] wrong = {{-1, 0, 1, 0}, {2, 0, 1, 0}, {0, -1, 1, 0}, {0, 0, 201, 0}, {0, 5, 4, 0}, {0, 0, 1, -1}, {0, 0, 1, 3}};
        for (int[] s : wrong) {
            Check.refused("3 wrong", w, w.window(s[0], s[1], s[2], s[3]), 1);
        }
        Check.due("3 from", w.stationTold(1, 4), 7);
        Check.due("3 to", w.stationTold(1, 5), 7);
        Check.due("3 light", w.stationTold(1, 6), 1);
        Check.due("3 other's to", w.stationTold(0, 5), 200);
    }

    private static void promise4Ahead() {
        WaterCruise w = withStations(10, 10, 10);
        Check.done("4 new", w, w.ahead(0, 2), 1);
        Check.done("4 again", w, w.ahead(0, 2), 0);
        Check.done("4 other", w, w.ahead(1, 2), 1);
        Check.done("4 back", w, w.ahead(2, 0), 1);
        Check.due("4 bits", w.stationTold(2, 7), 3);
        Check.due("4 bits back", w.stationTold(0, 7), 4);
        Check.refused("4 itself", w, w.ahead(1, 1), 1);
        Check.refused("4 none a", w, w.ahead(3, 1), 1);
        Check.refused("4 none b", w, w.ahead(1, 3), 1);
        Check.refused("4 below", w, w.ahead(-1, 1), 1);
        Check.refused("4 below b", w, w.ahead(1, -1), 1);
    }

    private static void promise5Fit() {
        WaterCruise w = new WaterCruise();
        Check.done("5 one", w, w.fit(200, 200, false), 200);
        Check.done("5 some", w, w.fit(0, 9, false), 190);
        Check.done("5 back", w, w.fit(5, 20, true), 195);
        Check.done("5 all", w, w.fit(0, 200, true), 201);
        Check.refused("5 turned", w, w.fit(2, 1, false), 1);
        Check.refused("5 below", w, w.fit(-1, 1, false), 1);
        Check.refused("5 above", w, w.fit(0, 201, false), 1);
        Check.due("5 count", w.count(10), 201);
    }

    private static void promise6Speed() {
        WaterCruise w = new WaterCruise();
        Check.done("6 first", w, w.speed(1), 5);
        Check.done("6 second", w, w.speed(20), 1);
        Check.refused("6 zero", w, w.speed(0), 1);
        Check.refused("6 above", w, w.speed(21), 1);
        Check.due("6 count", w.count(5), 20);
    }

    private static void promise7Cast() {
        WaterCruise w = withStations(200, 900);
        Check.done("7 cast", w, w.cast(0, 0, 200), 0);
        Check.done("7 core", w, w.cast(3, 1, -5), 1);
        Check.done("7 moor", w, w.cast(4, 1, 5000), 2);
        Check.done("7 underway", w, w.cast(5, 1, 1), 3);
        Check.due("7 core's depth", w.castTold(1, 2), 900);
        Check.due("7 moor's depth", w.castTold(2, 2), 900);
        int[][] wrong = {{-1, 0, 1}, {6, 0, 1}, {0, -1, 1}, {0, 2, 1}, {0, 0, 0}, {0, 0, 201}, {1, 0, 201}, {2, 0, 0},
            {5, 0, 201}, {5, 0, 0}};
        for (int[] s : wrong) {
            Check.refused("7 wrong", w, w.cast(s[0], s[1], s[2]), 1);
        }
        for (int i = 4; i < 30; i++) {
            Check.done("7 more", w, w.cast(2, 0, 1), i);
        }
        Check.refused("7 full", w, w.cast(0, 0, 1), 2);
        Check.refused("7 full and wrong", w, w.cast(0, 0, 0), 1);
    }

    private static void promise8Bottle() {
        WaterCruise w = withStations(200);
        w.cast(1, 0, 150);
        w.cast(0, 0, 150);
        w.cast(1, 0, 150);
        Check.refused("8 deeper than the cast", w, w.bottle(0, 151), 3);
        Check.done("8 as deep", w, w.bottle(0, 150), 0);
        Check.done("8 as deep as the one ahead", w, w.bottle(0, 150), 1);
        Check.done("8 less", w, w.bottle(0, 90), 2);
        Check.refused("8 deeper than the one ahead", w, w.bottle(0, 91), 3);
        Check.refused("8 no bottles cast", w, w.bottle(1, 10), 1);
        Check.refused("8 no cast", w, w.bottle(3, 10), 1);
        Check.refused("8 below 0", w, w.bottle(0, -1), 1);
        for (int i = 3; i < 8; i++) {
            Check.done("8 more", w, w.bottle(0, 0), i);
        }
        Check.refused("8 full", w, w.bottle(0, 0), 2);
        Check.refused("8 full and too deep", w, w.bottle(0, 100), 2);
        w.does(0);
        w.does(2);
        Check.refused("8 full and done", w, w.bottle(0, 0), 2);
        Check.refused("8 done", w, w.bottle(2, 0), 3);
        Check.refused("8 done, below 0", w, w.bottle(2, -1), 1);
    }

    private static void promise9Fail() {
        WaterCruise w = withStations(200);
        w.cast(1, 0, 150);
        w.cast(0, 0, 150);
        w.bottle(0, 10);
        w.bottle(0, 10);
        Check.done("9 fail", w, w.fail(0, 1), 1);
        Check.refused("9 again", w, w.fail(0, 1), 3);
        Check.refused("9 no bottle", w, w.fail(0, 2), 1);
        Check.refused("9 below", w, w.fail(0, -1), 1);
        Check.refused("9 no bottles cast", w, w.fail(1, 0), 1);
        Check.refused("9 no cast", w, w.fail(2, 0), 1);
        w.does(0);
        Check.refused("9 done", w, w.fail(0, 0), 3);
        Check.due("9 not failed", w.bottleTold(0, 0, 1), 0);
    }

    private static void promise10Hand() {
        WaterCruise w = new WaterCruise();
        Check.refused("10 below", w, w.hand(-1), 1);
        Check.refused("10 above", w, w.hand(10), 1);
        for (int i = 0; i < 8; i++) {
            Check.done("10 hand", w, w.hand(i + 2), i);
        }
        Check.refused("10 full", w, w.hand(0), 2);
        Check.refused("10 full and wrong", w, w.hand(10), 1);
        Check.due("10 count", w.count(2), 8);
    }

    private static void promise11Feed() {
        WaterCruise w = new WaterCruise();
        w.hand(0);
        Check.refused("11 zero", w, w.feed(0, 1), 1);
        Check.refused("11 nine", w, w.feed(9, 1), 1);
        Check.done("11 lowest first", w, w.feed(4, 0x656b6174L), 4);
        Check.done("11 higher bytes do not count", w, w.feed(2, 0x7777777777773b35L), 6);
        Check.done("11 read", w, w.lines(0), 1);
        Check.done("11 high bytes", w, w.feed(8, -1L), 8);
        Check.refused("11 none of them stands", w, w.lines(0), 3);
        for (int i = 1; i <= 19; i++) {
            Check.done("11 more", w, w.feed(8, 0x2020202020202020L), 8 * i);
        }
        w.feed(5, 0x2020202020L);
        Check.refused("11 no room", w, w.feed(4, 0), 2);
        Check.refused("11 no room and wrong", w, w.feed(9, 0), 1);
        Check.done("11 up to the last", w, w.feed(3, 0x202020L), 160);
        Check.refused("11 full", w, w.feed(1, 32), 2);
        Check.due("11 count", w.count(6), 160);
        Check.done("11 blanks alone", w, w.lines(0), 0);
    }

    private static void promise12And13Lines() {
        WaterCruise w = new WaterCruise();
        w.hand(0);
        Check.feed(w, "take 2;take 3 when left<4;");
        Check.refused("12 no hand", w, w.lines(1), 1);
        Check.refused("12 below", w, w.lines(-1), 1);
        Check.due("12 the tape stays", w.count(6), 26);
        Check.due("13 ahead of any", w.fault(0), 0);
        Check.done("12 read", w, w.lines(0), 2);
        Check.due("12 the tape is empty", w.count(6), 0);
        Check.due("12 lines", w.count(11), 2);
        Check.refused("12 a fault", w, Check.lines(w, 0, "take 2 3"), 3);
        Check.due("12 the tape is empty too", w.count(6), 0);
        Check.due("12 lines as they were", w.count(11), 2);
        Check.due("13 kind", w.fault(0), 1);
        Check.due("13 place", w.fault(1), 7);
        w.lines(5);
        Check.due("13 stays if the tape was not taken", w.fault(0), 1);
        Check.done("12 none", w, w.lines(0), 0);
        Check.due("12 no lines", w.count(11), 0);
        Check.due("13 none", w.fault(0), 0);
        Check.due("13 no place", w.fault(1), -1);
        Check.due("13 another", w.fault(2), -1);
    }

    private static void promise14Does() {
        WaterCruise w = withStations(900);
        w.cast(0, 0, 61);
        w.cast(5, 0, 900);
        w.cast(1, 0, 120);
        w.bottle(2, 120);
        w.bottle(2, 59);
        w.bottle(2, 0);
        Check.refused("14 none", w, w.does(3), 1);
        Check.refused("14 below", w, w.does(-1), 1);
        Check.done("14 cast", w, w.does(0), 4);
        Check.done("14 underway", w, w.does(1), 4);
        Check.done("14 bottles", w, w.does(2), 14);
        Check.due("14 began", w.castTold(2, 5), 4);
        Check.due("14 shut at the bottom", w.bottleTold(2, 0, 2), 6);
        Check.due("14 shut behind 61", w.bottleTold(2, 1, 2), 10);
        Check.due("14 shut at the top", w.bottleTold(2, 2, 2), 12);
        Check.due("14 water", w.bottleTold(2, 2, 3), 10);
        Check.refused("14 again", w, w.does(0), 3);
        for (int i = 0; i < 12; i++) {
            w.rest(i < 11 ? 1000 : 983);
        }
        Check.due("14 minute", w.count(4), 11997);
        Check.refused("14 of a done one too late", w, w.does(0), 2);
        Check.refused("14 of a done one not too late", w, w.does(1), 3);
        w.cast(0, 0, 61);
        w.cast(0, 0, 60);
        Check.refused("14 too late", w, w.does(3), 2);
        Check.done("14 in time", w, w.does(4), 11999);
    }

    private static void promise14Samples() {
        WaterCruise w = withStations(900);
        w.hand(5);
        w.hand(3);
        w.hand(5);
        Check.lines(w, 0, "take 4;");
        Check.lines(w, 1, "take 3 when left=10;");
        Check.lines(w, 2, "take 9 when depth=7;take 2 when left<4;");
        w.cast(1, 0, 900);
        w.bottle(0, 7);
        w.bottle(0, 6);
        w.does(0);
        int[][] due = {{1, 3, 0}, {0, 4, 0}, {2, 3, 0}, {1, 3, 0}, {0, 4, 0}, {2, 2, 1}};
        Check.due("14 samples", w.count(3), due.length);
        for (int i = 0; i < due.length; i++) {
            Check.due("14 hand of " + i, w.sample(i, 0), due[i][0]);
            Check.due("14 parts of " + i, w.sample(i, 3), due[i][1]);
            Check.due("14 line of " + i, w.sample(i, 9), due[i][2]);
            Check.due("14 bottle of " + i, w.sample(i, 2), i / 3);
        }
        Check.due("14 nothing left", w.bottleTold(0, 0, 3), 0);
        Check.due("14 one left", w.bottleTold(0, 1, 3), 1);
    }

    private static void promise14SampleRoom() {
        WaterCruise w = withStations(10);
        for (int i = 0; i < 8; i++) {
            w.hand(0);
            Check.lines(w, i, "take 1;");
        }
        for (int c = 0; c < 5; c++) {
            w.cast(1, 0, 10);
            for (int b = 0; b < 8; b++) {
                w.bottle(c, 1);
            }
            w.does(c);
        }
        Check.due("14 at most 250", w.count(3), 250);
        Check.due("14 the last that gave", w.bottleTold(3, 7, 3), 8);
        Check.due("14 then nothing is taken", w.bottleTold(4, 0, 3), 10);
        Check.due("14 last sample", w.sample(249, 0), 1);
        Check.due("14 no more", w.sample(250, 0), -1);
        Check.due("14 in the last place", w.box(4, 11), 59);
        Check.due("14 last place's sample", w.sample(59, 4) * 100 + w.sample(59, 5), 411);
        Check.due("14 loose, box", w.sample(60, 4), -1);
        Check.due("14 loose, place", w.sample(60, 5), -1);
        Check.due("14 loose is kept", w.sample(60, 6), 0);
        Check.due("14 kept", w.count(8), 250);
        Check.done("16 a loose one", w, w.use(60, false), 249);
        Check.due("14 water ever", w.water(0, 1), 32);
        Check.due("14 all places taken", w.box(0, 0), 0);
        for (int place = 0; place < 60; place++) {
            Check.due("25 box by box", w.box(place / 12, place % 12), place);
        }
        Check.due("25 no place 12", w.box(0, 12), -1);
        Check.due("25 no place 13", w.box(0, 13), -1);
        Check.due("25 no place below", w.box(1, -1), -1);
    }

    private static void promise15Rest() {
        WaterCruise w = new WaterCruise();
        Check.done("15 none", w, w.rest(0), 0);
        Check.refused("15 below", w, w.rest(-1), 1);
        Check.refused("15 above", w, w.rest(1001), 1);
        for (int i = 1; i <= 11; i++) {
            Check.done("15 more", w, w.rest(1000), 1000 * i);
        }
        Check.done("15 up to one less", w, w.rest(999), 11999);
        Check.refused("15 too late", w, w.rest(2), 2);
        Check.done("15 the last", w, w.rest(1), 12000);
        Check.refused("15 beyond", w, w.rest(1), 2);
        Check.refused("15 beyond and above", w, w.rest(1001), 1);
    }

    private static void promise16To26Use() {
        WaterCruise w = withStations(10);
        w.hand(0);
        Check.lines(w, 0, "take 3;");
        w.hand(1);
        w.cast(1, 0, 10);
        w.cast(1, 0, 10);
        for (int i = 0; i < 3; i++) {
            w.bottle(0, 0);
        }
        w.bottle(1, 0);
        w.does(0);
        Check.refused("16 none", w, w.use(3, false), 1);
        Check.refused("16 below", w, w.use(-1, false), 1);
        Check.done("16 used", w, w.use(0, false), 2);
        Check.done("16 lost", w, w.use(1, true), 1);
        Check.refused("16 again", w, w.use(0, true), 3);
        Check.refused("16 lost again", w, w.use(1, false), 3);
        Check.due("24 used", w.sample(0, 6), 1);
        Check.due("24 lost", w.sample(1, 6), 2);
        Check.due("24 no box", w.sample(0, 4), -1);
        Check.due("24 no place", w.sample(0, 5), -1);
        Check.due("25 free", w.box(0, 0), -1);
        Check.due("25 kept", w.box(0, 2), 2);
        w.does(1);
        Check.due("25 the first free place is taken", w.box(0, 0), 3);
        Check.due("24 its place", w.sample(3, 4) * 100 + w.sample(3, 5), 0);
        Check.due("25 no box", w.box(5, 0), -1);
        Check.due("25 below", w.box(-1, 0), -1);
        Check.due("25 no place", w.box(0, 12), -1);
        Check.due("25 below place", w.box(1, -1), -1);
        Check.due("26 kept", w.water(0, 0), 6);
        Check.due("26 ever", w.water(0, 1), 12);
        Check.due("26 nothing", w.water(1, 1), 0);
        Check.due("26 no hand", w.water(2, 0), -1);
        Check.due("26 below", w.water(-1, 0), -1);
        Check.due("26 another", w.water(0, 2), -1);
        Check.due("26 another below", w.water(0, -1), -1);
        int[] due = {0, 1, 0, 3, 0, 0, 0, 0, 10, 0};
        for (int what = 0; what < due.length; what++) {
            Check.due("24 sample(3, " + what + ")", w.sample(3, what), due[what]);
        }
        Check.due("24 another", w.sample(3, 10), -1);
        Check.due("24 another below", w.sample(3, -1), -1);
        Check.due("24 none", w.sample(4, 0), -1);
        Check.due("24 below", w.sample(-1, 0), -1);
        Check.due("28 kept", w.count(8), 2);
        Check.due("28 samples", w.count(3), 4);
    }

    private static void promise17TakeUp() {
        WaterCruise w = withStations(90);
        w.cast(4, 0, 0);
        w.cast(4, 0, 0);
        w.cast(3, 0, 0);
        Check.refused("17 not done", w, w.takeUp(0), 3);
        w.does(0);
        w.does(1);
        w.does(2);
        Check.due("28 left", w.count(9), 2);
        Check.due("22 left", w.castTold(0, 7), 1);
        Check.due("22 a core is not left", w.castTold(2, 7), 0);
        Check.refused("17 no moor", w, w.takeUp(2), 1);
        Check.refused("17 none", w, w.takeUp(3), 1);
        Check.done("17 first", w, w.takeUp(0), 1);
        Check.refused("17 again", w, w.takeUp(0), 3);
        Check.due("22 taken up", w.castTold(0, 7), 0);
        Check.due("22 began all the same", w.castTold(0, 5), 0);
        Check.done("17 second", w, w.takeUp(1), 0);
    }

    private static void promise18Readings() {
        WaterCruise w = withStations(900);
        w.cast(0, 0, 29);
        w.cast(0, 0, 900);
        w.sheet(0, 2, 3);
        w.sheet(1, 2, 4);
        w.sheet(2, 1, 1);
        Check.refused("18 no cast", w, w.readings(2, 0), 1);
        Check.refused("18 no sheet", w, w.readings(0, 4), 1);
        Check.refused("18 below", w, w.readings(0, -1), 1);
        Check.refused("18 missing, ahead of not done", w, w.readings(0, 3), 10);
        Check.refused("18 another sort, ahead of not done", w, w.readings(0, 2), 11);
        Check.refused("18 too deep, ahead of not done", w, w.readings(0, 1), 12);
        Check.refused("18 not done", w, w.readings(0, 0), 3);
        w.does(0);
        w.does(1);
        Check.done("18 three", w, w.readings(0, 0), 3);
        Check.due("22 readings", w.castTold(0, 6), 3);
        w.cell(0, 1, 5);
        Check.due("18 the sheet is not kept", w.mean(0, 10, 10, 0), 0);
        Check.refused("18 four", w, w.readings(0, 1), 12);
        w.sheet(1, 2, 2);
        Check.done("18 in place of others", w, w.readings(0, 1), 2);
        Check.due("22 two readings", w.castTold(0, 6), 2);
        w.sheet(1, 2, 0);
        Check.done("18 none", w, w.readings(0, 1), 0);
        w.sheet(1, 2, 91);
        Check.done("18 most", w, w.readings(1, 1), 91);
        w.sheet(1, 2, 92);
        Check.refused("18 too many", w, w.readings(1, 1), 12);
    }

    private static void promise21StationTold() {
        WaterCruise w = new WaterCruise();
        w.station(-7, 9, 300, 44);
        Check.due("21 alone", w.stationTold(0, 9), 0);
        w.station(4, 9, 20, 1);
        w.station(-7, 3, 20, 1);
        w.window(0, 3, 190, 2);
        w.ahead(1, 0);
        int[] due = {-7, 9, 300, 44, 3, 190, 2, 2, 1, 2, NO};
        for (int what = 0; what < due.length; what++) {
            Check.due("21 stationTold(0, " + what + ")", w.stationTold(0, what), due[what]);
        }
        w.speed(6);
        Check.due("21 nearest", w.stationTold(0, 9), 1);
        Check.due("21 nearest of 1", w.stationTold(1, 9), 2);
        w.speed(4);
        Check.due("21 nearest, slower", w.stationTold(1, 9), 3);
        Check.due("21 nearest of 0, slower", w.stationTold(0, 9), 2);
        w.cast(3, 0, 0);
        w.cast(0, 0, 300);
        w.cast(2, 0, 180);
        w.cast(2, 0, 210);
        Check.due("21 59 minutes", w.stationTold(0, 8), 1);
        w.cast(0, 0, 1);
        Check.due("21 61 minutes", w.stationTold(0, 8), 2);
        w.does(0);
        Check.due("21 of those not done", w.stationTold(0, 8), 1);
        Check.due("21 none", w.stationTold(3, 0), NO);
        Check.due("21 below", w.stationTold(-1, 0), NO);
        Check.due("21 another", w.stationTold(0, -1), NO);
    }

    private static void promise22And23Told() {
        WaterCruise w = withStations(900);
        int[] minutes = {30, 30, 60, 35, 65, 0};
        for (int kind = 0; kind < 6; kind++) {
            w.cast(kind, 0, 900);
            Check.due("22 minutes of kind " + kind, w.castTold(kind, 3), minutes[kind]);
        }
        w.bottle(1, 400);
        w.bottle(1, 300);
        w.fail(1, 1);
        int[] due = {1, 0, 900, 34, 2, -1, 0, 0, -1};
        for (int what = 0; what < due.length; what++) {
            Check.due("22 castTold(1, " + what + ")", w.castTold(1, what), due[what]);
        }
        Check.due("22 bottles of others", w.castTold(0, 4), 0);
        Check.due("22 none", w.castTold(6, 0), -1);
        Check.due("22 below", w.castTold(-1, 0), -1);
        Check.due("22 another", w.castTold(0, -1), -1);
        int[] ahead = {400, 0, -1, 0, -1};
        for (int what = 0; what < ahead.length; what++) {
            Check.due("23 ahead, " + what, w.bottleTold(1, 0, what), ahead[what]);
        }
        w.rest(3);
        w.does(1);
        int[] shut = {400, 0, 27, 10, -1};
        int[] failed = {300, 1, -1, 0, -1};
        for (int what = 0; what < shut.length; what++) {
            Check.due("23 shut, " + what, w.bottleTold(1, 0, what), shut[what]);
            Check.due("23 failed, " + what, w.bottleTold(1, 1, what), failed[what]);
        }
        Check.due("22 began", w.castTold(1, 5), 3);
        Check.due("23 no bottle", w.bottleTold(1, 2, 0), -1);
        Check.due("23 below", w.bottleTold(1, -1, 0), -1);
        Check.due("23 no cast", w.bottleTold(6, 0, 0), -1);
        Check.due("23 no bottles cast", w.bottleTold(0, 0, 0), -1);
        Check.due("23 another", w.bottleTold(1, 0, -1), -1);
    }

    /** A MINUTE begins with each full number of the table, for the way down and for that up. */
    private static void promise22Minutes() {
        int[] by = {60, 60, 30, 90, 90};
        int[] more = {0, 0, 0, 15, 45};
        for (int kind = 0; kind < 5; kind++) {
            for (int n = 1; n * by[kind] < 900; n++) {
                WaterCruise w = withStations(n * by[kind], n * by[kind] + 1);
                w.cast(kind, 0, n * by[kind]);
                w.cast(kind, 1, n * by[kind] + 1);
                Check.due("22 full, kind " + kind, w.castTold(0, 3), 2 * n + more[kind]);
                Check.due("22 begun, kind " + kind, w.castTold(1, 3), 2 * n + 2 + more[kind]);
            }
        }
        WaterCruise w = withStations(900);
        w.cast(2, 0, 900);
        Check.due("21 60 minutes", w.stationTold(0, 8), 1);
        for (int i = 0; i < 12; i++) {
            w.rest(i < 11 ? 1000 : 940);
        }
        Check.done("14 up to the last minute", w, w.does(0), 12000);
    }

    /** With every room full: what lies just behind the last one is none such, and sums take in the last one. */
    private static void fullRooms() {
        WaterCruise w = withStations(90, 90, 90, 90, 90, 90, 90, 90);
        for (int i = 0; i < 8; i++) {
            w.hand(9 - i);
            Check.lines(w, i, "take 1;");
        }
        for (int i = 0; i < 29; i++) {
            w.cast(0, 0, 60);
        }
        w.cast(4, 7, 0);
        Check.due("21 lasts with all casts", w.stationTold(0, 8), 1);
        Check.due("21 lasts with the last cast", w.stationTold(7, 8), 1);
        Check.due("21 nearest of all", w.stationTold(7, 9), 0);
        Check.due("19 plan with all", w.plan(2), 8);
        w.does(29);
        Check.due("28 left with all casts", w.count(9), 1);
        Check.due("28 lines with all hands", w.count(11), 8);
        Check.due("21 none behind", w.stationTold(8, 0), NO);
        Check.due("22 none behind", w.castTold(30, 0), -1);
        Check.due("23 none behind", w.bottleTold(30, 0, 0), -1);
        Check.due("26 none behind", w.water(8, 0), -1);
        Check.due("27 none behind", w.mean(30, 0, 0, 2), NO);
        Check.refused("3 none behind", w, w.window(8, 0, 1, 0), 1);
        Check.refused("4 none behind", w, w.ahead(0, 8), 1);
        Check.refused("7 none behind", w, w.cast(0, 8, 1), 1);
        Check.refused("12 none behind", w, w.lines(8), 1);
        Check.refused("14 none behind", w, w.does(30), 1);
        Check.refused("17 none behind", w, w.takeUp(30), 1);
        Check.refused("18 none behind", w, w.readings(30, 0), 1);
        Check.refused("29 none behind", w, w.act(30, 0, 0), 1);
        Check.done("17 the last", w, w.takeUp(29), 0);
    }

    private static void promise27FewerReadings() {
        WaterCruise w = withStations(900);
        w.cast(0, 0, 900);
        w.does(0);
        for (int n : new int[] {91, 2}) {
            w.sheet(0, 2, n);
            for (int i = 0; i < n; i++) {
                w.cell(0, i, 8);
            }
            w.readings(0, 0);
            mean(w, 0, 900, 1, 1, n, 0);
        }
    }

    private static void promise27Mean() {
        WaterCruise w = withStations(900);
        w.cast(0, 0, 100);
        w.does(0);
        w.sheet(0, 2, 6);
        int[] eighths = {16, -1000, 0, 4, 4, 0};
        for (int i = 0; i < eighths.length; i++) {
            w.cell(0, i, eighths[i]);
        }
        w.none(0, 5);
        w.readings(0, 0);
        mean(w, 0, 0, 2, 1, 1, 0);
        mean(w, 0, 10, -123, 2, 2, 0);
        mean(w, 1, 19, -125, 1, 1, 0);
        mean(w, 20, 20, 0, 1, 1, 0);
        mean(w, 20, 40, 1, 3, 3, 0);
        mean(w, 0, 50, -122, 5, 5, 1);
        mean(w, 41, 60, NO, NO, 0, 1);
        mean(w, 51, 900, NO, NO, 0, 0);
        mean(w, 20, 19, NO, NO, 0, 0);
        mean(w, Integer.MIN_VALUE, Integer.MAX_VALUE, -122, 5, 5, 1);
        Check.due("27 another", w.mean(0, 0, 50, 4), NO);
        Check.due("27 another below", w.mean(0, 0, 50, -1), NO);
        Check.due("27 no cast", w.mean(1, 0, 50, 2), NO);
        Check.due("27 below", w.mean(-1, 0, 50, 2), NO);
        w.cast(0, 0, 100);
        Check.due("27 not done", w.mean(1, 0, 50, 2), 0);
        Check.due("27 not done, no mean", w.mean(1, 0, 50, 1), NO);
    }

    private static void mean(WaterCruise w, int a, int b, int above, int below, int numbers, int nones) {
        int[] due = {above, below, numbers, nones};
        for (int what = 0; what < 4; what++) {
            Check.due("27 mean(0, " + a + ", " + b + ", " + what + ")", w.mean(0, a, b, what), due[what]);
        }
    }

    private static void promise28Count() {
        WaterCruise w = withStations(10, 10);
        w.cast(0, 0, 10);
        w.hand(0);
        w.hand(1);
        w.hand(1);
        Check.lines(w, 0, "take 1;take 2;");
        Check.lines(w, 2, "take 1;");
        w.rest(7);
        w.speed(9);
        w.feed(3, 0);
        w.act(0, 1, 0);
        w.fit(0, 0, false);
        int[] due = {2, 1, 3, 0, 7, 9, 3, 2, 0, 0, 200, 3, -1};
        for (int what = 0; what < due.length; what++) {
            Check.due("28 count(" + what + ")", w.count(what), due[what]);
        }
        Check.due("28 another", w.count(-1), -1);
    }

    private static void act(WaterCruise w, int cast, int act, int x, int answer, int... bodies) {
        String what = "29 act(" + cast + ", " + act + ", " + x + ")";
        Check.done(what, w, w.act(cast, act, x), answer);
        Check.due(what + " count(7)", w.count(7), bodies.length);
        for (int i = 0; i < bodies.length; i++) {
            Check.due("30 " + what + " trace(" + i + ")", w.trace(i), bodies[i]);
        }
        Check.due("30 " + what + " behind", w.trace(bodies.length), -1);
        Check.due("30 " + what + " below", w.trace(-1), -1);
    }

    private static void promise29And30Act() {
        WaterCruise w = withStations(900);
        for (int kind = 0; kind < 6; kind++) {
            w.cast(kind, 0, 100);
        }
        w.bottle(1, 0);
        Check.due("30 ahead of any", w.trace(0), -1);
        act(w, 0, 0, 7, 107, 10);
        act(w, 0, 1, 7, 214, 11, 10);
        act(w, 0, 2, 7, 7, 12);
        act(w, 0, 3, 7, 214 ^ 7, 13, 11, 10, 12);
        act(w, 1, 0, 7, 107, 10);
        act(w, 1, 2, 7, 7 - 1 + 6, 20, 12);
        act(w, 1, 3, 7, 216 ^ 13, 21, 13, 11, 10, 20, 12);
        act(w, 2, 0, 7, 321, 30, 10);
        act(w, 2, 1, 7, 642, 11, 30, 10);
        act(w, 2, 3, 7, 642 ^ 5, 13, 11, 30, 10, 12);
        act(w, 3, 1, 7, 1814 - 4, 40, 11, 10, 12);
        act(w, 3, 3, 7, 1810 ^ 4, 13, 40, 11, 10, 12, 12);
        act(w, 4, 0, 7, 907, 10);
        act(w, 4, 1, 7, 1814 - 6 + 907, 51, 40, 11, 10, 50, 12, 10);
        act(w, 4, 2, 7, 6, 50, 12);
        act(w, 4, 3, 7, 2715 ^ 6, 13, 51, 40, 11, 10, 50, 12, 10, 50, 12);
        act(w, 5, 2, 7, 2, 12);
        act(w, 5, 3, 7, 107 - (214 ^ 2), 60, 10, 13, 11, 10, 12);
        act(w, 0, 0, Integer.MAX_VALUE, Integer.MAX_VALUE + 100, 10);
        act(w, 2, 0, Integer.MAX_VALUE, (Integer.MAX_VALUE + 100) * 3, 30, 10);
        act(w, 0, 2, -1, -1, 12);
        Check.refused("29 no act", w, w.act(1, 4, 0), 1);
        Check.refused("29 act below", w, w.act(1, -1, 0), 1);
        Check.refused("29 no cast", w, w.act(6, 0, 0), 1);
        Check.refused("29 cast below", w, w.act(-1, 0, 0), 1);
        Check.due("30 the trace stays", w.trace(0), 12);
    }

    private static void promise31To33Sheets() {
        WaterCruise w = new WaterCruise();
        Check.done("31 bytes", w, w.sheet(0, 0, 100), 1);
        Check.done("31 shorts", w, w.sheet(1, 1, 3), 1);
        Check.done("31 floats", w, w.sheet(2, 2, 2), 1);
        Check.done("31 empty", w, w.sheet(3, 1, 0), 1);
        int[][] wrong = {{-1, 0, 1}, {4, 0, 1}, {0, -2, 1}, {0, 3, 1}, {0, 0, -1}, {0, 0, 101}, {4, -1, 0}};
        for (int[] s : wrong) {
            Check.refused("31 wrong", w, w.sheet(s[0], s[1], s[2]), 1);
        }
        Check.done("32 last", w, w.cell(0, 99, 5), 1);
        Check.refused("32 outside", w, w.cell(0, 100, 5), 12);
        Check.refused("32 below", w, w.cell(0, -1, 5), 12);
        Check.refused("32 empty", w, w.cell(3, 0, 5), 12);
        Check.refused("32 v above", w, w.cell(0, 100, 1001), 1);
        Check.refused("32 v below", w, w.cell(0, 0, -1001), 1);
        Check.refused("32 no sheet", w, w.cell(4, 0, 0), 1);
        Check.refused("33 bytes", w, w.none(0, 0), 11);
        Check.refused("33 bytes outside", w, w.none(0, 100), 11);
        Check.refused("33 no sheet", w, w.none(-1, 0), 1);
        Check.refused("33 outside", w, w.none(2, 2), 12);
        Check.refused("33 below", w, w.none(2, -1), 12);
        Check.done("33 none", w, w.none(2, 1), 1);
        w.cell(1, 2, -1000);
        Check.done("32 a short", w, w.forge(2, 2, 1), -1000);
        w.sheet(0, 0, 3);
        w.cell(0, 1, 200);
        Check.done("32 cut to a byte", w, w.forge(3, 1, 0), -56);
        w.cell(0, 1, -1000);
        Check.done("32 cut from below", w, w.forge(3, 1, 0), 24);
        w.sheet(1, 1, 3);
        Check.done("31 all 0 again", w, w.forge(2, 2, 1), 0);
        Check.done("31 missing", w, w.sheet(1, -1, 5000), 1);
        Check.refused("32 missing", w, w.cell(1, 0, 0), 10);
        Check.refused("32 missing and v", w, w.cell(1, 0, 2000), 1);
        Check.refused("33 missing", w, w.none(1, 0), 10);
        noneBecomesANumber();
    }

    private static void noneBecomesANumber() {
        WaterCruise w = withStations(10);
        w.cast(0, 0, 10);
        w.does(0);
        w.sheet(0, 2, 1);
        w.none(0, 0);
        w.readings(0, 0);
        Check.due("33 no number", w.mean(0, 0, 0, 3), 1);
        w.cell(0, 0, 3);
        w.readings(0, 0);
        Check.due("32 a number again", w.mean(0, 0, 0, 0) * 10 + w.mean(0, 0, 0, 1), 38);
    }

    private static void promise34Forge() {
        WaterCruise w = withStations(100);
        int[][] under = {{0}, {0, 1}, {0, 2}, {0, 3}, {0, 3, 4}, {0, 5}};
        for (int kind = 0; kind < 6; kind++) {
            w.cast(kind, 0, 50);
            for (int as = 0; as < 6; as++) {
                boolean is = false;
                for (int u : under[kind]) {
                    is |= u == as;
                }
                if (is) {
                    Check.done("34 0 " + kind + " as " + as, w, w.forge(0, as, kind), kind);
                    Check.done("34 0 modulo", w, w.forge(0, as - 12, kind - 60), kind);
                } else {
                    Check.refused("34 0 " + kind + " as " + as, w, w.forge(0, as, kind), 11);
                }
            }
        }
        Check.refused("34 0 none", w, w.forge(0, 0, 6), 10);
        Check.refused("34 0 none, modulo", w, w.forge(0, 0, -1), 10);
        Check.done("34 1", w, w.forge(1, 100, 0), 100);
        Check.done("34 1 zero", w, w.forge(1, 0, 0), 0);
        Check.refused("34 1 below", w, w.forge(1, -1, 0), 13);
        Check.refused("34 4 cast", w, w.forge(4, 0, 0), 14);
        Check.refused("34 4 underway", w, w.forge(4, 0, 35), 14);
        Check.done("34 4 core", w, w.forge(4, 0, 3), 3);
        Check.done("34 4 moor", w, w.forge(4, 0, -26), 4);
        Check.done("34 4 none", w, w.forge(4, 0, 6), 0);
        Check.done("34 5", w, w.forge(5, -7, 0), -142);
        Check.refused("34 5 by 0", w, w.forge(5, 0, 0), 15);
        Check.refused("34 6 none", w, w.forge(6, -2, 0), 10);
        Check.done("34 6 caught", w, w.forge(6, -1, 0), 1);
        int[][] wrong = {{-1, 0, 0}, {7, 0, 0}, {1, 101, 0}, {1, -101, 0}, {1, 0, 101}, {1, 0, -101}, {5, 0, 101}};
        for (int[] s : wrong) {
            Check.refused("34 wrong", w, w.forge(s[0], s[1], s[2]), 1);
        }
        promise34Sheets(w);
    }

    private static void promise34Sheets(WaterCruise w) {
        w.sheet(0, 0, 4);
        w.sheet(1, 1, 2);
        w.sheet(2, 2, 9);
        w.cell(0, 0, 100);
        w.cell(0, 1, 1);
        w.cell(0, 2, 20);
        w.cell(0, 3, -128);
        w.cell(1, 1, 77);
        Check.done("34 2", w, w.forge(2, 1, 5), 77);
        Check.done("34 2 modulo", w, w.forge(2, 1, -3), 77);
        Check.refused("34 2 outside", w, w.forge(2, 2, 1), 12);
        Check.refused("34 2 below", w, w.forge(2, -1, 1), 12);
        Check.refused("34 2 bytes", w, w.forge(2, 99, 0), 11);
        Check.refused("34 2 floats", w, w.forge(2, 0, 2), 11);
        Check.refused("34 2 missing", w, w.forge(2, -1, 3), 10);
        Check.done("34 3 none", w, w.forge(3, 0, 0), 0);
        Check.done("34 3 one", w, w.forge(3, 1, 4), 1);
        Check.done("34 3 three", w, w.forge(3, 3, 0), -107);
        Check.refused("34 3 four", w, w.forge(3, 4, 0), 12);
        Check.refused("34 3 below", w, w.forge(3, -1, 0), 12);
        Check.refused("34 3 shorts", w, w.forge(3, -1, 1), 11);
        Check.refused("34 3 missing", w, w.forge(3, -1, 3), 10);
        w.sheet(0, 0, 3);
        Check.refused("34 3 too few", w, w.forge(3, 3, 0), 12);
        w.sheet(0, 0, 1);
        Check.done("34 3 none of one", w, w.forge(3, 0, 0), 0);
        w.sheet(0, 0, 0);
        Check.refused("34 3 none of none", w, w.forge(3, 0, 0), 12);
        w.sheet(0, 0, 100);
        Check.refused("34 3 beyond the row of 6", w, w.forge(3, 4, 0), 12);
    }

    private static void promise35Status() {
        WaterCruise w = withStations(10);
        w.station(0, 0, 0, 0);
        w.plan(9);
        w.planned(9, 9);
        w.stationTold(9, 9);
        w.castTold(9, 9);
        w.bottleTold(9, 9, 9);
        w.sample(9, 9);
        w.box(9, 9);
        w.water(9, 9);
        w.mean(9, 9, 9, 9);
        w.count(0);
        w.trace(9);
        w.fault(0);
        Check.due("35 questions leave it", w.status(), 1);
        w.speed(3);
        w.count(99);
        Check.due("35 done", w.status(), 0);
    }

    public static void main(String[] args) {
        promise1NewObject();
        promise2Station();
        promise3Window();
        promise4Ahead();
        promise5Fit();
        promise6Speed();
        promise7Cast();
        promise8Bottle();
        promise9Fail();
        promise10Hand();
        promise11Feed();
        promise12And13Lines();
        promise14Does();
        promise14Samples();
        promise14SampleRoom();
        promise15Rest();
        promise16To26Use();
        promise17TakeUp();
        promise18Readings();
        promise21StationTold();
        promise22And23Told();
        promise22Minutes();
        fullRooms();
        promise27FewerReadings();
        promise27Mean();
        promise28Count();
        promise29And30Act();
        promise31To33Sheets();
        promise34Forge();
        promise35Status();
        Check.end();
    }
}
