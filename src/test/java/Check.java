import java.nio.charset.StandardCharsets;
import java.util.ArrayList;
import java.util.List;

/** What the tests share: comparing an answer with the one that is due, and telling at the end. */
final class Check {
    private static int wrong = 0;
    private static int checks = 0;

    private Check() {
    }

    static void due(String what, long got, long want) {
        checks++;
        if (got != want) {
            wrong++;
            if (wrong <= 50) {
                System.out.println(what + " answered " + got + ", due is " + want);
            }
        }
    }

    static void due(String what, boolean holds) {
        due(what, holds ? 1 : 0, 1);
    }

    /** A call that is refused: it answers -1 and leaves this STATUS. */
    static void refused(String what, WaterCruise w, int got, int status) {
        due(what, got, -1);
        due(what + ", status", w.status(), status);
    }

    /** A call that is done: it answers so and leaves STATUS 0. */
    static void done(String what, WaterCruise w, int got, int want) {
        due(what, got, want);
        due(what + ", status", w.status(), 0);
    }

    static void feed(WaterCruise w, String text) {
        for (String call : feeds(text)) {
            Call.of(call).on(w);
        }
    }

    /** The calls that put a text on THE TAPE, 8 bytes each, the last one the rest. */
    static List<String> feeds(String text) {
        List<String> calls = new ArrayList<>();
        byte[] bytes = text.getBytes(StandardCharsets.ISO_8859_1);
        for (int from = 0; from < bytes.length; from += 8) {
            int n = Math.min(8, bytes.length - from);
            long packed = 0;
            for (int i = 0; i < n; i++) {
                packed |= (bytes[from + i] & 255L) << 8 * i;
            }
            calls.add("feed(" + n + ", " + packed + ")");
        }
        return calls;
    }

    static int lines(WaterCruise w, int hand, String text) {
        feed(w, text);
        return w.lines(hand);
    }

    static void end() {
        System.out.println(checks + " checks, " + wrong + " wrong");
        if (wrong > 0) {
            System.exit(1);
        }
    }
}
