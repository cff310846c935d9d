import java.util.ArrayList;
import java.util.List;
import java.util.Random;

/**
 * Promises 11 to 14 (and 24, 26): texts with a reading of their own, that knows which tokens may follow
 * what stands so far, and works the conditions out from the text itself.
 */
final class LinesTest {
    private static final String[] PIECES = {"take", "when", "and", "or", "not", "station", "depth", "left", "hour",
        "<", "=", "(", ")", ";", " ", "0", "1", "2", "5", "10", "11", "07", "999", "1234", "x", "takes", "A", "\n", "-"};

    private final String text;
    private final List<String> tokens = new ArrayList<>();
    private final List<Integer> places = new ArrayList<>();
    private int faultKind = 0;
    private int faultPlace = -1;
    /** Tokens of each LINE: its number, then those behind when. */
    private final List<List<String>> lines = new ArrayList<>();

    private LinesTest(String text) {
        this.text = text;
        cut();
        follow();
    }

    private void cut() {
        java.util.regex.Matcher m = java.util.regex.Pattern.compile("[0-9]+|[a-z]+| +|.", java.util.regex.Pattern.DOTALL)
            .matcher(text);
        while (m.find()) {
            if (m.group().charAt(0) != ' ') {
                tokens.add(m.group());
                places.add(m.start());
            }
        }
    }

    private static boolean isNumber(String token) {
        return token.matches("[0-9]{1,3}");
    }

    private static boolean isValue(String token) {
        return token.equals("station") || token.equals("depth") || token.equals("left") || token.equals("hour");
    }

    /** Goes from token to token with what is open: '(' and 'n' for a not that waits for the end of its NOT. */
    private void follow() {
        String due = "take";
        StringBuilder open = new StringBuilder();
        int badTake = -1;
        for (int i = 0; i < tokens.size(); i++) {
            String t = tokens.get(i);
            String next = "";
            switch (due) {
                case "take":
                    next = t.equals("take") && lines.size() < 12 ? "parts" : "";
                    break;
                case "parts":
                    next = isNumber(t) ? "when" : "";
                    if (isNumber(t) && badTake < 0 && (Integer.parseInt(t) < 1 || Integer.parseInt(t) > 10)) {
                        badTake = places.get(i);
                    }
                    break;
                case "when":
                    next = t.equals("when") ? "operand" : t.equals(";") ? "take" : "";
                    break;
                case "operand":
                    if (open.length() < 6) {
                        next = t.equals("not") || t.equals("(") ? "operand" : isValue(t) ? "sign" : "";
                        open.append(t.equals("not") ? "n" : t.equals("(") ? "(" : "");
                    }
                    break;
                case "sign":
                    next = t.equals("<") || t.equals("=") ? "number" : "";
                    break;
                case "number":
                    next = isNumber(t) ? "behind" : "";
                    endNots(open);
                    break;
                default:
                    next = behind(t, open);
                    break;
            }
            if (next.isEmpty()) {
                faultKind = 1;
                faultPlace = places.get(i);
                return;
            }
            keep(due, t);
            due = next;
        }
        if (!due.equals("take")) {
            faultKind = 1;
            faultPlace = text.length();
        } else if (badTake >= 0) {
            faultKind = 2;
            faultPlace = badTake;
        }
    }

    private static void endNots(StringBuilder open) {
        while (open.length() > 0 && open.charAt(open.length() - 1) == 'n') {
            open.setLength(open.length() - 1);
        }
    }

    private static String behind(String t, StringBuilder open) {
        if (t.equals("and") || t.equals("or")) {
            return "operand";
        }
        if (t.equals(";")) {
            return open.length() == 0 ? "take" : "";
        }
        if (t.equals(")") && open.length() > 0) {
            open.setLength(open.length() - 1);
            endNots(open);
            return "behind";
        }
        return "";
    }

    private void keep(String due, String t) {
        if (due.equals("take")) {
            lines.add(new ArrayList<>());
        } else if (!t.equals("when") && !t.equals(";")) {
            lines.get(lines.size() - 1).add(t);
        }
    }

    /** Works a condition out by splitting it at the loosest operator outside of brackets. */
    private static boolean holds(List<String> c, int[] values) {
        if (c.isEmpty()) {
            return true;
        }
        for (String loose : new String[] {"or", "and"}) {
            int open = 0;
            for (int i = c.size() - 1; i >= 0; i--) {
                open += c.get(i).equals(")") ? 1 : c.get(i).equals("(") ? -1 : 0;
                if (open == 0 && c.get(i).equals(loose)) {
                    boolean left = holds(c.subList(0, i), values);
                    boolean right = holds(c.subList(i + 1, c.size()), values);
                    return loose.equals("or") ? left || right : left && right;
                }
            }
        }
        if (c.get(0).equals("not")) {
            return !holds(c.subList(1, c.size()), values);
        }
        if (c.get(0).equals("(")) {
            return holds(c.subList(1, c.size() - 1), values);
        }
        int value = values[List.of("station", "depth", "left", "hour").indexOf(c.get(0))];
        int number = Integer.parseInt(c.get(2));
        return c.get(1).equals("=") ? value == number : value < number;
    }

    private int firstHolding(int[] values) {
        for (int i = 0; i < lines.size(); i++) {
            if (holds(lines.get(i).subList(1, lines.get(i).size()), values)) {
                return i;
            }
        }
        return -1;
    }

    private void compareReading(WaterCruise w) {
        int before = w.count(11);
        int got = Check.lines(w, 0, text);
        String what = "lines of \"" + text + "\"";
        Check.due(what, got, faultKind == 0 ? lines.size() : -1);
        Check.due(what + " status", w.status(), faultKind == 0 ? 0 : 3);
        Check.due(what + " fault(0)", w.fault(0), faultKind);
        Check.due(what + " fault(1)", w.fault(1), faultPlace);
        Check.due(what + " count(6)", w.count(6), 0);
        Check.due(what + " count(11)", w.count(11), faultKind == 0 ? lines.size() : before);
    }

    private static String anyCondition(Random r, int depth) {
        int sort = r.nextInt(depth > 4 ? 1 : 6);
        if (sort == 1) {
            return "not " + anyCondition(r, depth + 1);
        }
        if (sort == 2) {
            return "(" + anyCondition(r, depth + 1) + ")";
        }
        if (sort > 3) {
            return anyCondition(r, depth + 1) + (sort == 4 ? " and " : " or ") + anyCondition(r, depth + 1);
        }
        switch (r.nextInt(4)) {
            case 0: return "station" + (r.nextBoolean() ? "<" : "=") + r.nextInt(3);
            case 1: return "depth " + (r.nextBoolean() ? "< " : "= ") + 10 * r.nextInt(12);
            case 2: return "left" + (r.nextBoolean() ? " <" : " =") + r.nextInt(12);
            default: return "hour" + (r.nextBoolean() ? "<" : "=") + r.nextInt(4);
        }
    }

    private static String anyText(Random r) {
        StringBuilder text = new StringBuilder();
        int n = r.nextInt(8) == 0 ? r.nextInt(15) : r.nextInt(5);
        for (int i = 0; i < n; i++) {
            String when = r.nextInt(5) == 0 ? "" : " when " + anyCondition(r, 0);
            String line = "take " + (r.nextInt(20) == 0 ? r.nextInt(13) : 1 + r.nextInt(10)) + when + ";";
            if (text.length() + line.length() <= 160) {
                text.append(line);
            }
        }
        return text.toString();
    }

    private static String spoilt(String text, Random r) {
        int from = r.nextInt(text.length() + 1);
        int to = Math.min(text.length(), from + r.nextInt(4));
        String piece = r.nextInt(3) == 0 ? "" : PIECES[r.nextInt(PIECES.length)];
        String changed = text.substring(0, from) + piece + text.substring(to);
        return changed.length() > 160 ? changed.substring(0, 160) : changed;
    }

    private static String anyPieces(Random r) {
        StringBuilder text = new StringBuilder();
        for (int i = r.nextInt(12); i > 0; i--) {
            text.append(PIECES[r.nextInt(PIECES.length)]).append(r.nextBoolean() ? " " : "");
        }
        return text.length() > 160 ? text.substring(0, 160) : text.toString();
    }

    private static void readings(Random r) {
        for (int run = 0; run < 3000; run++) {
            WaterCruise w = new WaterCruise();
            w.hand(0);
            for (int i = 0; i < 6; i++) {
                String text = r.nextInt(4) == 0 ? anyPieces(r) : anyText(r);
                new LinesTest(text).compareReading(w);
                new LinesTest(spoilt(text, r)).compareReading(w);
            }
        }
    }

    /** Several hands part the water of a few casts; every SAMPLE is foretold. */
    private static void parting(Random r, String run) {
        WaterCruise w = new WaterCruise();
        int handCount = 1 + r.nextInt(8);
        int[] spoils = new int[handCount];
        LinesTest[] told = new LinesTest[handCount];
        for (int h = 0; h < handCount; h++) {
            spoils[h] = r.nextInt(r.nextBoolean() ? 10 : 3);
            w.hand(spoils[h]);
            told[h] = new LinesTest("");
            LinesTest text = new LinesTest(anyText(r));
            Check.lines(w, h, text.text);
            told[h] = text.faultKind == 0 ? text : told[h];
        }
        w.station(0, 0, 100, 1);
        w.station(0, 0, 110, 1);
        w.station(0, 0, 120, 1);
        int number = 0;
        for (int c = 0; c < 3; c++) {
            int station = r.nextInt(3);
            w.cast(1, station, 100);
            int depth = 100;
            int bottles = r.nextInt(9);
            for (int b = 0; b < bottles; b++) {
                depth = depth - depth % 10 - 10 * r.nextInt(3);
                depth = Math.max(0, depth);
                w.bottle(c, depth);
                if (r.nextInt(6) == 0) {
                    w.fail(c, b);
                }
            }
            w.rest(r.nextInt(70));
            w.does(c);
            for (int b = 0; b < bottles; b++) {
                number = foretell(w, told, spoils, c, b, number, run);
            }
        }
        Check.due(run + " count(3)", w.count(3), number);
    }

    private static int foretell(WaterCruise w, LinesTest[] told, int[] spoils, int c, int b, int from, String run) {
        int number = from;
        boolean fails = w.bottleTold(c, b, 1) == 1;
        int left = fails ? 0 : 10;
        int depth = w.bottleTold(c, b, 0);
        int shut = w.castTold(c, 5) + 2 + (100 - depth + 59) / 60 + 2 * b;
        Check.due(run + " shut", w.bottleTold(c, b, 2), fails ? -1 : shut);
        for (int spoil = 0; spoil < 10; spoil++) {
            for (int h = 0; h < told.length; h++) {
                int line = told[h].firstHolding(new int[] {w.castTold(c, 1), depth, left, shut / 60});
                if (spoils[h] == spoil && left > 0 && line >= 0) {
                    int parts = Math.min(left, Integer.parseInt(told[h].lines.get(line).get(0)));
                    left -= parts;
                    int place = number < 60 ? number : -1;
                    int[] due = {h, c, b, parts, place < 0 ? -1 : place / 12, place < 0 ? -1 : place % 12, 0,
                        w.castTold(c, 1), shut, line};
                    for (int what = 0; what < 10; what++) {
                        Check.due(run + " sample(" + number + ", " + what + ")", w.sample(number, what), due[what]);
                    }
                    number++;
                }
            }
        }
        Check.due(run + " left", w.bottleTold(c, b, 3), left);
        return number;
    }

    private static void fault(String text, int kind, int place) {
        WaterCruise w = new WaterCruise();
        w.hand(0);
        Check.lines(w, 0, text);
        Check.due("\"" + text + "\" fault(0)", w.fault(0), kind);
        Check.due("\"" + text + "\" fault(1)", w.fault(1), place);
        Check.due("\"" + text + "\" fault(2)", w.fault(2), -1);
        Check.due("\"" + text + "\" fault(-1)", w.fault(-1), -1);
    }

    private static void edges() {
        fault("", 0, -1);
        fault("   ", 0, -1);
        fault("take 1;", 0, -1);
        fault("  take1when(hour<1)or not left=2;  ", 0, -1);
        fault("take 010;", 0, -1);
        fault("take", 1, 4);
        fault("take  ", 1, 6);
        fault("take 1", 1, 6);
        fault("take 1 when ", 1, 12);
        fault("take 1234;", 1, 5);
        fault("take 0001;", 1, 5);
        fault("takes 1;", 1, 0);
        fault("Take 1;", 1, 0);
        fault("takez 1;", 1, 0);
        fault("atake 1;", 1, 0);
        fault("take`1;", 1, 4);
        fault("take{1;", 1, 4);
        fault("take/1;", 1, 4);
        fault("take:1;", 1, 4);
        fault("take 9 when left<9;", 0, -1);
        fault(";".repeat(160), 1, 0);
        fault(" ".repeat(153) + "take 1;", 0, -1);
        fault("take 1;" + " ".repeat(153), 0, -1);
        fault("take 1" + " ".repeat(154), 1, 160);
        fault("take 1;\n", 1, 7);
        fault("take 1;\u00ff", 1, 7);
        fault("take 1; ;", 1, 8);
        fault("take 1 when hour > 1;", 1, 17);
        fault("take 1 when hour < hour;", 1, 19);
        fault("take 1 when (hour < 1;", 1, 21);
        fault("take 1 when hour < 1);", 1, 20);
        fault("take 1 when hour = 1 2;", 1, 21);
        fault("take 0;", 2, 5);
        fault("take 11;", 2, 5);
        fault("take 1;take 000;take 11;", 2, 12);
        fault("take 0; x", 1, 8);
        fault("take 0", 1, 6);
        fault("take 1 when not not not not not hour=1;", 0, -1);
        fault("take 1 when not not not not not not hour=1;", 1, 36);
        fault("take 1 when ((((((hour=1))))));", 1, 18);
        fault("take 1 when not not not not not not;", 1, 35);
        fault("take 1 when not not not not not not and left=1;", 1, 36);
        fault("take 1 when (((((())))));", 1, 18);
        fault("take 1 when not not not not not not", 1, 35);
        fault("take 1 when (((((hour=1)))));", 0, -1);
        fault("take 1 when not(not(not(not hour=1)));", 1, 24);
        fault("take 1 when not(not(not hour=1)) and not not not not not left<1;", 0, -1);
        fault("take 1;take 1;take 1;take 1;take 1;take 1;take 1;take 1;take 1;take 1;take 1;take 1;", 0, -1);
        fault("take 1;take 1;take 1;take 1;take 1;take 1;take 1;take 1;take 1;take 1;take 1;take 1; take 0", 1, 85);
    }

    public static void main(String[] args) {
        edges();
        readings(new Random(12));
        Random r = new Random(14);
        for (int i = 0; i < 2000; i++) {
            parting(r, "parting " + i);
        }
        Check.end();
    }
}
