import java.util.ArrayList;
import java.util.Arrays;
import java.util.Comparator;
import java.util.List;
import java.util.TreeSet;
import java.util.function.IntSupplier;
import java.util.stream.IntStream;

/**
 * The document read a second time, by one who had read the class too: every call under its own name, each held
 * as plainly as its words stand there, and otherwise than the class where that could be. KINDS are Java classes,
 * so that ACTS run by Java's own super; SHEETS are Java arrays, and what the host refuses is what Java throws.
 */
final class SecondReading {
    private static final int NONE = -1, NO = -1000000;

    private static final class Refused extends RuntimeException {
        private static final long serialVersionUID = 1;
        final int status;

        Refused(int status) {
            super(null, null, false, false);
            this.status = status;
        }
    }

    // ---- what there is

    private static final class Station {
        int x, y, depth, worth, from = 0, to = 200, light = 0;
        final TreeSet<Integer> ahead = new TreeSet<>();
    }

    private static final class Bottle {
        int depth, shut = NONE, water = 0;
        boolean fails;
    }

    private class Cast {
        int number, kind, station, depth, began = NONE;
        boolean left;
        final List<Bottle> bottles = new ArrayList<>();
        float[] readings = new float[0];

        int perMinute() {
            return 60;
        }

        int down() {
            return perMinute() == 0 ? 0 : (int) Math.ceil(depth / (double) perMinute());
        }

        int minutes() {
            return down() + down();
        }

        int down(int x) {
            trace.add(10);
            return x + depth;
        }

        int up(int x) {
            trace.add(11);
            return down(x) * 2;
        }

        int shut(int x) {
            trace.add(12);
            return x - number;
        }

        int tell(int x) {
            trace.add(13);
            return up(x) ^ shut(x);
        }
    }

    private class Bottles extends Cast {
        @Override
        int minutes() {
            return super.minutes() + 2 * bottles.size();
        }

        @Override
        int shut(int x) {
            trace.add(20);
            return super.shut(x) + minutes();
        }

        @Override
        int tell(int x) {
            trace.add(21);
            return super.tell(x + 1);
        }
    }

    private class Net extends Cast {
        @Override
        int perMinute() {
            return 30;
        }

        @Override
        int down(int x) {
            trace.add(30);
            return super.down(x) * 3;
        }
    }

    private class Core extends Cast {
        @Override
        int perMinute() {
            return 90;
        }

        @Override
        int minutes() {
            return super.minutes() + 15;
        }

        @Override
        int up(int x) {
            trace.add(40);
            return super.up(x) - shut(x);
        }
    }

    private class Moor extends Core {
        @Override
        int minutes() {
            return super.minutes() - 15 + 45;
        }

        @Override
        int shut(int x) {
            trace.add(50);
            return super.shut(x) * 2;
        }

        @Override
        int up(int x) {
            trace.add(51);
            return super.up(x) + super.down(x);
        }
    }

    private class Underway extends Cast {
        @Override
        int perMinute() {
            return 0;
        }

        @Override
        int tell(int x) {
            trace.add(60);
            return down(x) - super.tell(x);
        }
    }

    private static final class Hand {
        int number, spoil;
        List<Text.Line> lines = new ArrayList<>();
    }

    private static final class Sample {
        int hand, cast, bottle, parts, line, state;
        /** BOX times 12 and PLACE, or NONE. */
        int place = NONE;
    }

    private final List<Station> stations = new ArrayList<>();
    private final boolean[] unfit = new boolean[201];
    private int speed = 5;
    private final List<Cast> casts = new ArrayList<>();
    private final List<Hand> hands = new ArrayList<>();
    private String tape = "";
    private Text latest = null;
    private final List<Sample> samples = new ArrayList<>();
    private int minute = 0;
    private List<Integer> trace = new ArrayList<>();
    private final Object[] sheets = new Object[4];
    private int status = 0;
    /** THE PLAN and how long each STATION LASTS, till the next call that is no question. */
    private Plan plan = null;
    private int[] lasting = null;

    // ---- what all calls share

    private int change(IntSupplier call) {
        status = 0;
        plan = null;
        lasting = null;
        try {
            return call.getAsInt();
        } catch (Refused r) {
            status = r.status;
        } catch (NullPointerException e) {
            status = 10;
        } catch (ClassCastException e) {
            status = 11;
        } catch (IndexOutOfBoundsException e) {
            status = 12;
        } catch (NegativeArraySizeException e) {
            status = 13;
        } catch (ArrayStoreException e) {
            status = 14;
        } catch (ArithmeticException e) {
            status = 15;
        }
        return -1;
    }

    private static void refuse(int status, boolean holds) {
        if (holds) {
            throw new Refused(status);
        }
    }

    private static void in(int n, int from, int to) {
        refuse(1, n < from || n > to);
    }

    private static <T> T of(List<T> list, int n) {
        in(n, 0, list.size() - 1);
        return list.get(n);
    }

    private static boolean is(List<?> list, int n) {
        return n >= 0 && n < list.size();
    }

    // ---- promises 2 to 6, 19 to 21

    public int station(int x, int y, int depth, int worth) {
        return change(() -> {
            in(x, -50, 50);
            in(y, -50, 50);
            in(depth, 1, 900);
            in(worth, 1, 99);
            refuse(2, stations.size() == 8);
            Station s = new Station();
            s.x = x;
            s.y = y;
            s.depth = depth;
            s.worth = worth;
            stations.add(s);
            return stations.size() - 1;
        });
    }

    public int window(int station, int from, int to, int light) {
        return change(() -> {
            Station s = of(stations, station);
            in(from, 0, 200);
            in(to, from, 200);
            in(light, 0, 2);
            s.from = from;
            s.to = to;
            s.light = light;
            return 1;
        });
    }

    public int ahead(int a, int b) {
        return change(() -> {
            of(stations, a);
            Station s = of(stations, b);
            refuse(1, a == b);
            return s.ahead.add(a) ? 1 : 0;
        });
    }

    public int fit(int a, int b, boolean is) {
        return change(() -> {
            in(a, 0, 200);
            in(b, a, 200);
            Arrays.fill(unfit, a, b + 1, !is);
            return fitHours();
        });
    }

    private int fitHours() {
        return (int) IntStream.rangeClosed(0, 200).filter(h -> !unfit[h]).count();
    }

    public int speed(int n) {
        return change(() -> {
            in(n, 1, 20);
            int was = speed;
            speed = n;
            return was;
        });
    }

    private int hours(int x, int y, Station to) {
        int way = Math.abs(x - to.x) + Math.abs(y - to.y);
        return way / speed + (way % speed > 0 ? 1 : 0);
    }

    private int lasts(int station) {
        int minutes = casts.stream().filter(c -> c.station == station && c.began == NONE).mapToInt(Cast::minutes).sum();
        return Math.max(1, (int) Math.ceil(minutes / 60.0));
    }

    private record Plan(int worth, int end, List<Integer> row, List<Integer> begins) {
        boolean betterThan(Plan other) {
            if (worth != other.worth || end != other.end) {
                return worth != other.worth ? worth > other.worth : end < other.end;
            }
            for (int i = 0; i < Math.min(row.size(), other.row.size()); i++) {
                if (!row.get(i).equals(other.row.get(i))) {
                    return row.get(i) < other.row.get(i);
                }
            }
            return false;
        }
    }

    /** From the last STATION down, so that like ones have to be told apart by their rows. */
    private Plan best(Plan so, int x, int y) {
        Plan best = so;
        for (int i = stations.size() - 1; i >= 0; i--) {
            Station s = stations.get(i);
            int number = i;
            boolean mayFollow = !so.row.contains(i) && so.row.stream().noneMatch(r -> stations.get(r).ahead.contains(number));
            int begin = mayFollow ? begin(i, so.end + hours(x, y, s)) : NONE;
            if (begin != NONE) {
                List<Integer> row = new ArrayList<>(so.row);
                row.add(i);
                List<Integer> begins = new ArrayList<>(so.begins);
                begins.add(begin);
                Plan longer = best(new Plan(so.worth + s.worth, begin + lasting[i], row, begins), s.x, s.y);
                best = longer.betterThan(best) ? longer : best;
            }
        }
        return best;
    }

    private int begin(int station, int coming) {
        Station s = stations.get(station);
        for (int h = coming; h <= 200; h++) {
            boolean light = h % 24 >= 6 && h % 24 <= 17;
            if (s.light == 0 || light == (s.light == 1)) {
                int i = h;
                while (i < h + lasting[station] && i <= 200 && !unfit[i] && i >= s.from && i <= s.to) {
                    i++;
                }
                if (i == h + lasting[station]) {
                    return h;
                }
            }
        }
        return NONE;
    }

    private Plan thePlan() {
        if (plan == null) {
            lasting = IntStream.range(0, stations.size()).map(this::lasts).toArray();
            plan = best(new Plan(0, 0, List.of(), List.of()), 0, 0);
        }
        return plan;
    }

    public int plan(int what) {
        Plan p = thePlan();
        return what == 0 ? p.worth : what == 1 ? p.end : what == 2 ? p.row.size() : -1;
    }

    public int planned(int i, int what) {
        Plan p = thePlan();
        return !is(p.row, i) ? -1 : what == 0 ? p.row.get(i) : what == 1 ? p.begins.get(i) : -1;
    }

    public int stationTold(int station, int what) {
        if (!is(stations, station) || what < 0 || what > 9) {
            return NO;
        }
        Station s = stations.get(station);
        int bits = s.ahead.stream().mapToInt(a -> 1 << a).sum();
        int least = stations.stream().filter(o -> o != s).mapToInt(o -> hours(o.x, o.y, s)).min().orElse(0);
        return new int[] {s.x, s.y, s.depth, s.worth, s.from, s.to, s.light, bits, lasts(station), least}[what];
    }

    // ---- promises 7 to 9, 14, 15, 17, 22, 23

    public int cast(int kind, int station, int depth) {
        return change(() -> {
            in(kind, 0, 5);
            Station s = of(stations, station);
            Cast c = new Cast[] {new Cast(), new Bottles(), new Net(), new Core(), new Moor(), new Underway()}[kind];
            c.depth = c instanceof Core ? s.depth : depth;
            in(c.depth, 1, s.depth);
            refuse(2, casts.size() == 30);
            c.number = casts.size();
            c.kind = kind;
            c.station = station;
            casts.add(c);
            return c.number;
        });
    }

    public int bottle(int cast, int depth) {
        return change(() -> {
            Cast c = of(casts, cast);
            refuse(1, c.kind != 1 || depth < 0);
            refuse(2, c.bottles.size() == 8);
            refuse(3, c.began != NONE || depth > c.depth || c.bottles.stream().anyMatch(b -> depth > b.depth));
            Bottle b = new Bottle();
            b.depth = depth;
            c.bottles.add(b);
            return c.bottles.size() - 1;
        });
    }

    public int fail(int cast, int bottle) {
        return change(() -> {
            Cast c = of(casts, cast);
            Bottle b = of(c.bottles, bottle);
            refuse(3, b.fails || c.began != NONE);
            b.fails = true;
            return 1;
        });
    }

    public int does(int cast) {
        return change(() -> {
            Cast c = of(casts, cast);
            refuse(2, minute + c.minutes() > 12000);
            refuse(3, c.began != NONE);
            c.began = minute;
            c.left = c instanceof Moor;
            int ahead = 0;
            for (Bottle b : c.bottles) {
                if (!b.fails) {
                    b.shut = c.began + c.down() + (int) Math.ceil((c.depth - b.depth) / 60.0) + 2 * ahead;
                    b.water = 10;
                }
                ahead++;
            }
            minute = c.began + c.minutes();
            c.bottles.forEach(b -> part(c, b));
            return minute;
        });
    }

    private void part(Cast c, Bottle b) {
        List<Hand> inTurn = new ArrayList<>(hands);
        inTurn.sort(Comparator.comparingInt((Hand h) -> h.spoil).thenComparingInt(h -> h.number));
        for (Hand h : inTurn) {
            int[] values = {c.station, b.depth, b.water, b.shut / 60};
            int line = IntStream.range(0, h.lines.size()).filter(i -> h.lines.get(i).holds(values)).findFirst().orElse(NONE);
            int parts = line == NONE ? 0 : Math.min(b.water, h.lines.get(line).parts);
            if (parts > 0 && samples.size() < 250) {
                b.water -= parts;
                Sample s = new Sample();
                s.hand = h.number;
                s.cast = c.number;
                s.bottle = c.bottles.indexOf(b);
                s.parts = parts;
                s.line = line;
                s.place = IntStream.range(0, 60).filter(p -> box(p / 12, p % 12) == -1).findFirst().orElse(NONE);
                samples.add(s);
            }
        }
    }

    public int rest(int n) {
        return change(() -> {
            in(n, 0, 1000);
            refuse(2, minute + n > 12000);
            minute += n;
            return minute;
        });
    }

    public int takeUp(int cast) {
        return change(() -> {
            Cast c = of(casts, cast);
            refuse(1, c.kind != 4);
            refuse(3, !c.left);
            c.left = false;
            return moorsLeft();
        });
    }

    private int moorsLeft() {
        return (int) casts.stream().filter(c -> c.left).count();
    }

    public int castTold(int cast, int what) {
        if (!is(casts, cast) || what < 0 || what > 7) {
            return -1;
        }
        Cast c = casts.get(cast);
        return new int[] {c.kind, c.station, c.depth, c.minutes(), c.bottles.size(), c.began, c.readings.length, c.left ? 1 : 0}[what];
    }

    public int bottleTold(int cast, int bottle, int what) {
        if (!is(casts, cast) || !is(casts.get(cast).bottles, bottle) || what < 0 || what > 3) {
            return -1;
        }
        Bottle b = casts.get(cast).bottles.get(bottle);
        return new int[] {b.depth, b.fails ? 1 : 0, b.shut, b.water}[what];
    }

    // ---- promises 10 to 13, 16, 24 to 26

    public int hand(int spoil) {
        return change(() -> {
            in(spoil, 0, 9);
            refuse(2, hands.size() == 8);
            Hand h = new Hand();
            h.number = hands.size();
            h.spoil = spoil;
            hands.add(h);
            return h.number;
        });
    }

    public int feed(int n, long bytes) {
        return change(() -> {
            in(n, 1, 8);
            refuse(2, tape.length() + n > 160);
            for (int i = 0; i < n; i++) {
                tape += (char) (bytes >>> 8 * i & 0xff);
            }
            return tape.length();
        });
    }

    public int lines(int hand) {
        return change(() -> {
            Hand h = of(hands, hand);
            latest = new Text(tape);
            tape = "";
            refuse(3, latest.fault != 0);
            h.lines = latest.lines;
            return h.lines.size();
        });
    }

    public int fault(int what) {
        return what == 0 ? latest == null ? 0 : latest.fault : what == 1 && latest != null ? latest.place : -1;
    }

    public int use(int sample, boolean lost) {
        return change(() -> {
            Sample s = of(samples, sample);
            refuse(3, s.state != 0);
            s.state = lost ? 2 : 1;
            s.place = NONE;
            return kept();
        });
    }

    private int kept() {
        return (int) samples.stream().filter(s -> s.state == 0).count();
    }

    public int sample(int sample, int what) {
        if (!is(samples, sample) || what < 0 || what > 9) {
            return -1;
        }
        Sample s = samples.get(sample);
        Cast c = casts.get(s.cast);
        return new int[] {s.hand, s.cast, s.bottle, s.parts, s.place < 0 ? NONE : s.place / 12, s.place < 0 ? NONE : s.place % 12,
            s.state, c.station, c.bottles.get(s.bottle).shut, s.line}[what];
    }

    public int box(int box, int place) {
        if (box < 0 || box > 4 || place < 0 || place > 11) {
            return -1;
        }
        return IntStream.range(0, samples.size()).filter(i -> samples.get(i).place == 12 * box + place).findFirst().orElse(-1);
    }

    public int water(int hand, int what) {
        if (!is(hands, hand) || what < 0 || what > 1) {
            return -1;
        }
        return samples.stream().filter(s -> s.hand == hand && (what == 1 || s.state == 0)).mapToInt(s -> s.parts).sum();
    }

    // ---- promises 18, 27 to 33

    public int readings(int cast, int sheet) {
        return change(() -> {
            Cast c = of(casts, cast);
            in(sheet, 0, 3);
            float[] numbers = (float[]) sheets[sheet];
            refuse(12, numbers.length > 0 && 10 * (numbers.length - 1) > c.depth);
            refuse(3, c.began == NONE);
            c.readings = numbers.clone();
            return numbers.length;
        });
    }

    public int mean(int cast, int a, int b, int what) {
        if (!is(casts, cast) || what < 0 || what > 3) {
            return NO;
        }
        float[] all = casts.get(cast).readings;
        int[] at = IntStream.range(0, all.length).filter(i -> 10 * i >= a && 10 * i <= b).toArray();
        float[] eighths = new float[at.length];
        int many = 0;
        for (int i : at) {
            if (!Float.isNaN(all[i])) {
                eighths[many++] = all[i] * 8;
            }
        }
        if (what > 1) {
            return what == 2 ? many : at.length - many;
        }
        if (many == 0) {
            return NO;
        }
        long sum = 0;
        for (int i = 0; i < many; i++) {
            sum += (long) eighths[i];
        }
        java.math.BigInteger below = java.math.BigInteger.valueOf(8L * many);
        java.math.BigInteger above = java.math.BigInteger.valueOf(sum);
        return (what == 0 ? above : below).divide(above.gcd(below)).intValueExact();
    }

    public int count(int what) {
        switch (what) {
            case 0: return stations.size();
            case 1: return casts.size();
            case 2: return hands.size();
            case 3: return samples.size();
            case 4: return minute;
            case 5: return speed;
            case 6: return tape.length();
            case 7: return Math.min(50, trace.size());
            case 8: return kept();
            case 9: return moorsLeft();
            case 10: return fitHours();
            case 11: return hands.stream().mapToInt(h -> h.lines.size()).sum();
            default: return -1;
        }
    }

    public int act(int cast, int act, int x) {
        return change(() -> {
            Cast c = of(casts, cast);
            in(act, 0, 3);
            trace = new ArrayList<>();
            return act == 0 ? c.down(x) : act == 1 ? c.up(x) : act == 2 ? c.shut(x) : c.tell(x);
        });
    }

    public int trace(int i) {
        return i < 50 && is(trace, i) ? trace.get(i) : -1;
    }

    public int sheet(int sheet, int sort, int n) {
        return change(() -> {
            in(sheet, 0, 3);
            in(sort, -1, 2);
            if (sort >= 0) {
                in(n, 0, 100);
            }
            sheets[sheet] = sort < 0 ? null : sort == 0 ? new byte[n] : sort == 1 ? new short[n] : new float[n];
            return 1;
        });
    }

    public int cell(int sheet, int i, int v) {
        return change(() -> {
            in(sheet, 0, 3);
            in(v, -1000, 1000);
            if (sheets[sheet] instanceof byte[] bytes) {
                bytes[i] = (byte) v;
            } else if (sheets[sheet] instanceof short[] shorts) {
                shorts[i] = (short) v;
            } else {
                ((float[]) sheets[sheet])[i] = v / 8f;
            }
            return 1;
        });
    }

    public int none(int sheet, int i) {
        return change(() -> {
            in(sheet, 0, 3);
            ((float[]) sheets[sheet])[i] = Float.NaN;
            return 1;
        });
    }

    // ---- promises 34, 35

    public int forge(int what, int n, int k) {
        return change(() -> {
            in(what, 0, 6);
            in(n, -100, 100);
            in(k, -100, 100);
            int number = (k + 300) % 30;
            Cast c = number < casts.size() ? casts.get(number) : null;
            Object sheet = sheets[(k + 100) % 4];
            switch (what) {
                case 0: return taken(c, (n + 600) % 6).kind;
                case 1: return new int[n].length;
                case 2: return ((short[]) sheet)[n];
                case 3: return copied((byte[]) sheet, n);
                case 4: return put(c);
                case 5: return 1000 / n;
                default: return thrown((n + 100) % 2 == 0 ? null : new IllegalStateException());
            }
        });
    }

    private static Cast taken(Cast c, int kind) {
        switch (kind) {
            case 0: return c;
            case 1: return (Bottles) c;
            case 2: return (Net) c;
            case 3: return (Core) c;
            case 4: return (Moor) c;
            default: return (Underway) c;
        }
    }

    private static int copied(byte[] from, int n) {
        byte[] row = new byte[6];
        System.arraycopy(from, 1, row, n, n);
        int sum = 0;
        for (byte b : row) {
            sum += b;
        }
        return sum;
    }

    private static int put(Cast c) {
        Cast[] row = new Core[1];
        row[0] = c;
        return row[0] == null ? 0 : row[0].kind;
    }

    private static int thrown(IllegalStateException failure) {
        try {
            throw failure;
        } catch (IllegalStateException e) {
            return 1;
        }
    }

    public int status() {
        return status;
    }

    // ---- Terms 3

    /** A text on THE TAPE: its LINES, or its FAULT. */
    private static final class Text {
        private interface Condition {
            boolean holds(int[] values);
        }

        private static final class Line {
            int parts;
            Condition when = values -> true;

            boolean holds(int[] values) {
                return when.holds(values);
            }
        }

        private static final List<String> KEYS = List.of("take", "when", "and", "or", "not", "station", "depth", "left", "hour");
        private static final List<String> VALUES = List.of("station", "depth", "left", "hour");

        private final String text;
        private int at = 0;
        final List<Line> lines = new ArrayList<>();
        int fault = 0;
        int place = -1;

        private static final class CantStand extends RuntimeException {
            private static final long serialVersionUID = 1;
        }

        Text(String text) {
            this.text = text;
            int bad = -1;
            try {
                while (!next().isEmpty()) {
                    demand(lines.size() < 12);
                    token("take");
                    Line line = new Line();
                    next();
                    bad = bad < 0 && next().matches("0+|0*1[1-9]|0*[2-9][0-9]|0*[1-9][0-9][0-9]") && next().length() < 4 ? at : bad;
                    line.parts = number();
                    if (next().equals("when")) {
                        token("when");
                        line.when = or(0);
                    }
                    token(";");
                    lines.add(line);
                }
                fault = bad < 0 ? 0 : 2;
                place = bad;
            } catch (CantStand e) {
                next();
                fault = 1;
                place = at;
            }
        }

        /** The token that begins at the next byte that is no blank; empty at the end. */
        private String next() {
            while (at < text.length() && text.charAt(at) == ' ') {
                at++;
            }
            int end = at;
            for (String all : new String[] {"0123456789", "abcdefghijklmnopqrstuvwxyz"}) {
                while (end < text.length() && (end == at || all.indexOf(text.charAt(at)) >= 0) && all.indexOf(text.charAt(end)) >= 0) {
                    end++;
                }
            }
            return text.substring(at, Math.min(text.length(), Math.max(end, at + 1)));
        }

        private static void demand(boolean stands) {
            if (!stands) {
                throw new CantStand();
            }
        }

        private void token(String due) {
            demand(next().equals(due));
            at += due.length();
        }

        private int number() {
            String n = next();
            demand(n.length() >= 1 && n.length() <= 3 && n.chars().allMatch(c -> c >= '0' && c <= '9'));
            at += n.length();
            return Integer.parseInt(n);
        }

        private Condition or(int others) {
            Condition left = and(others);
            while (next().equals("or")) {
                token("or");
                Condition l = left;
                Condition r = and(others);
                left = v -> l.holds(v) | r.holds(v);
            }
            return left;
        }

        private Condition and(int others) {
            Condition left = not(others);
            while (next().equals("and")) {
                token("and");
                Condition l = left;
                Condition r = not(others);
                left = v -> l.holds(v) & r.holds(v);
            }
            return left;
        }

        /** others: in how many NOTs this one lies. */
        private Condition not(int others) {
            String first = next();
            demand(others < 6);
            if (first.equals("not")) {
                token("not");
                Condition inner = not(others + 1);
                return v -> !inner.holds(v);
            }
            if (first.equals("(")) {
                token("(");
                Condition inner = or(others + 1);
                token(")");
                return inner;
            }
            int value = VALUES.indexOf(first);
            demand(value >= 0 && KEYS.contains(first));
            token(first);
            boolean less = next().equals("<");
            token(less ? "<" : "=");
            int number = number();
            return v -> less ? v[value] < number : v[value] == number;
        }
    }
}
