import java.nio.charset.StandardCharsets;

/** What the tests share: comparing an answer with the one that is due, and telling at the end. */
final class Check {
    private static int wrong = 0;
    private static int checks = 0;

    private Check() {
    }

    static void due(String what, long got, long want) {
        checks++;
        if (got != want) {
            wrong++;
            if (wrong <= 50) {
                System.out.println(what + " answered " + got + ", due is " + want);
            }
        }
    }

    static void due(String what, boolean holds) {
        due(what, holds ? 1 : 0, 1);
    }

    /** A call that is refused: it answers -1 and leaves this STATUS. */
    static void refused(String what, WaterCruise w, int got, int status) {
        due(what, got, -1);
        due(what + ", status", w.status(), status);
    }

    /** A call that is done: it answers so and leaves STATUS 0. */
    static void done(String what, WaterCruise w, int got, int want) {
        due(what, got, want);
        due(what + ", status", w.status(), 0);
    }

    static void feed(WaterCruise w, String text) {
        byte[] bytes = text.getBytes(StandardCharsets.ISO_8859_1);
        for (int from = 0; from < bytes.length; from += 8) {
            int n = Math.min(8, bytes.length - from);
            long packed = 0;
            for (int i = 0; i < n; i++) {
                packed |= (bytes[from + i] & 255L) << 8 * i;
            }
            w.feed(n, packed);
        }
    }

    static int lines(WaterCruise w, int hand, String text) {
        feed(w, text);
        return w.lines(hand);
    }

    /** Everything that the questions tell, but for THE PLAN and the STATUS. */
    static String snapshot(WaterCruise w) {
        StringBuilder all = new StringBuilder();
        for (int i = 0; i < 12; i++) {
            all.append(w.count(i)).append(' ');
        }
        all.append(w.fault(0)).append(' ').append(w.fault(1)).append('|');
        for (int i = 0; i < w.count(0); i++) {
            for (int what = 0; what < 10; what++) {
                all.append(w.stationTold(i, what)).append(' ');
            }
        }
        for (int i = 0; i < w.count(1); i++) {
            for (int what = 0; what < 8; what++) {
                all.append(w.castTold(i, what)).append(' ');
            }
            for (int what = 0; what < 4; what++) {
                all.append(w.mean(i, 0, 900, what)).append(' ');
            }
            for (int b = 0; b < w.castTold(i, 4); b++) {
                for (int what = 0; what < 4; what++) {
                    all.append(w.bottleTold(i, b, what)).append(' ');
                }
            }
        }
        for (int i = 0; i < w.count(3); i++) {
            for (int what = 0; what < 10; what++) {
                all.append(w.sample(i, what)).append(' ');
            }
        }
        for (int i = 0; i < 60; i++) {
            all.append(w.box(i / 12, i % 12)).append(' ');
        }
        for (int i = 0; i < w.count(2); i++) {
            all.append(w.water(i, 0)).append(' ').append(w.water(i, 1)).append(' ');
        }
        for (int i = 0; i < 50; i++) {
            all.append(w.trace(i)).append(' ');
        }
        return all.toString();
    }

    static void end() {
        System.out.println(checks + " checks, " + wrong + " wrong");
        if (wrong > 0) {
            System.exit(1);
        }
    }
}
