import java.lang.reflect.Method;
import java.lang.reflect.Modifier;
import java.util.ArrayList;
import java.util.Arrays;
import java.util.Comparator;
import java.util.List;
import java.util.Random;
import java.util.TreeMap;

/**
 * Long runs of calls, drawn from fixed seeds, answered by NumberRiver and by a plain model
 * that keeps its bits as texts and its points unpacked; every answer must be the same. In every
 * third run a part of the calls has numbers from all over, and none of them may throw.
 */
public final class ModelTest {
    private static final int RUNS = 1200;
    // What an object answers behind its 512th call is free; a step makes up to seven.
    private static final int CALLS = 512;
    private static final int MOST_OF_A_STEP = 7;
    private static final int[] WILD = {Integer.MIN_VALUE, Integer.MIN_VALUE + 1, -1_000_000_001, -16, -2, -1, 0, 0, 0,
        1, 1, 2, 3, 4, 6, 7, 8, 10, 15, 16, 20, 40, 41, 50, 60, 100, 225, 226, 255, 256, 300, 1000, 1_000_000,
        1_000_001, 999_999_999, 1_000_000_000, 1_000_000_001, Integer.MAX_VALUE - 1, Integer.MAX_VALUE};
    private static final long[] WILD_VALUES = {Long.MIN_VALUE, Long.MIN_VALUE + 1, -1_000_000_000_001L,
        -1_000_000_000_000L, -1, 0, 1, 2, 3, 777, 1L << 32, 1_000_000_000_000L, 1_000_000_000_001L, Long.MAX_VALUE};
    private static final Method[] FACE = face();
    private static int wrong = 0;
    private static int run = 0;
    private static final List<String> calls = new ArrayList<>();

    private static void same(String call, long got, long want) {
        calls.add(call + " -> " + got);
        if (got == want) {
            return;
        }
        wrong++;
        if (wrong <= 5) {
            System.out.println("run " + run + ": " + call + " answered " + got + ", the model says " + want);
            if (wrong == 1) {
                int from = Math.max(0, calls.size() - 40);
                for (String c : calls.subList(from, calls.size())) {
                    System.out.println("    " + c);
                }
            }
        }
    }

    /** The public calls, always in the same order, as reflection promises none. */
    private static Method[] face() {
        return Arrays.stream(NumberRiver.class.getDeclaredMethods())
            .filter(m -> Modifier.isPublic(m.getModifiers()))
            .sorted(Comparator.comparing(Method::getName))
            .toArray(Method[]::new);
    }

    public static void main(String[] args) {
        for (run = 0; run < RUNS; run++) {
            calls.clear();
            new Walk(new Random(7000 + run)).go();
        }
        System.out.println(wrong == 0 ? "model: all answers are the same" : "model: " + wrong + " answers differ");
        if (wrong != 0) {
            System.exit(1);
        }
    }

    /** One run: draws calls and has both sides answer. */
    private static final class Walk {
        private final Random random;
        private final NumberRiver river = new NumberRiver();
        private final Model model = new Model();
        private final int scale;
        private final int clock;
        private final int mending;
        private int now = 0;

        Walk(Random random) {
            this.random = random;
            this.scale = random.nextInt(5);
            this.clock = random.nextInt(4);
            this.mending = 2 + random.nextInt(60);
        }

        void go() {
            int first = 1 + random.nextInt(3);
            for (int i = 0; i < first; i++) {
                makeSeries(random.nextInt(4));
            }
            while (calls.size() + MOST_OF_A_STEP <= CALLS) {
                if (run % 3 == 0 && random.nextInt(4) == 0) {
                    wildStep();
                } else {
                    step();
                }
            }
        }

        /** Any call, with any numbers; after it, what scan tells, that no refused one changes. */
        private void wildStep() {
            Method m = FACE[random.nextInt(FACE.length)];
            Object[] numbers = new Object[m.getParameterCount()];
            for (int i = 0; i < numbers.length; i++) {
                numbers[i] = wildNumber(m.getParameterTypes()[i], i == 0);
            }
            String call = m.getName() + Arrays.toString(numbers);
            try {
                Method twin = Model.class.getDeclaredMethod(m.getName(), m.getParameterTypes());
                long want = ((Number) twin.invoke(model, numbers)).longValue();
                same(call, ((Number) m.invoke(river, numbers)).longValue(), want);
            } catch (ReflectiveOperationException thrown) {
                wrong++;
                System.out.println("run " + run + ": " + call + " threw " + thrown.getCause());
            }
            int what = random.nextInt(3);
            same("scan(" + what + ")", river.scan(what), model.scan(what));
        }

        /** The first number of most calls is that of a series, which there should be mostly. */
        private Object wildNumber(Class<?> type, boolean first) {
            if (type == boolean.class) {
                return random.nextBoolean();
            }
            if (type == long.class) {
                return WILD_VALUES[random.nextInt(WILD_VALUES.length)];
            }
            return first && random.nextInt(4) != 0 ? number() : WILD[random.nextInt(WILD.length)];
        }

        private void step() {
            int r = random.nextInt(100);
            if (r < 1) {
                makeSeries(random.nextInt(6) - 1);
            } else if (r < 4) {
                label();
            } else if (r < 24) {
                put();
            } else if (r < 32) {
                fill();
            } else if (r < 36) {
                change();
            } else if (r < 44) {
                tear();
            } else if (r < 68) {
                look();
            } else if (r < 94) {
                ask();
            } else {
                about();
            }
        }

        private int number() {
            return random.nextInt(40) == 0 ? random.nextInt(12) - 2 : random.nextInt(Math.max(1, model.all.size()));
        }

        private int step(int most) {
            switch (clock) {
                case 0: return 1 + random.nextInt(3);
                case 1: return 10;
                case 2: return 1 + random.nextInt(1 << random.nextInt(14));
                default: return 1 + random.nextInt(Math.min(most, 1_000_000));
            }
        }

        private int time() {
            int r = random.nextInt(50);
            if (r == 0) {
                return random.nextInt(2) == 0 ? -1 : 1_000_000_001;
            }
            if (r < 36) {
                now += step(3_000_000);
                return now;
            }
            if (r == 36 && random.nextInt(20) == 0) {
                return 1_000_000_000;
            }
            return now == 0 ? 0 : random.nextInt(now + 1);
        }

        private long value(int kind) {
            if (random.nextInt(60) == 0) {
                long[] odd = {1_000_000_000_000L, -1_000_000_000_000L, 1_000_000_000_001L, -1_000_000_000_001L,
                    -1, 2, Long.MIN_VALUE, Long.MAX_VALUE};
                return odd[random.nextInt(odd.length)];
            }
            if (kind == 1) {
                return random.nextInt(2);
            }
            if (kind == 2) {
                return random.nextInt(4) - 1;
            }
            long v;
            switch (scale) {
                case 0: v = random.nextInt(5); break;
                case 1: v = random.nextInt(1000) * 16L; break;
                case 2: v = (long) (random.nextDouble() * 1e12); break;
                case 3: v = 1L << random.nextInt(39); break;
                default: v = 777;
            }
            return kind == 3 || random.nextBoolean() ? v : -v;
        }

        private int kindOf(int s) {
            return s < 0 || s >= model.all.size() ? 0 : model.all.get(s).kind;
        }

        private void makeSeries(int kind) {
            same("series(" + kind + ")", river.series(kind), model.series(kind));
        }

        private void label() {
            int s = number();
            int key = random.nextInt(20) == 0 ? random.nextInt(12) - 2 : random.nextInt(2);
            int v = random.nextInt(20) == 0 ? random.nextInt(20) - 3 : random.nextInt(4) - 1;
            same("label(" + s + ", " + key + ", " + v + ")", river.label(s, key, v), model.label(s, key, v));
        }

        private void put() {
            int s = number();
            int t = time();
            long v = value(kindOf(s));
            same("put(" + s + ", " + t + ", " + v + ")", river.put(s, t, v), model.put(s, t, v));
        }

        private void fill() {
            int s = number();
            int t = random.nextInt(10) == 0 ? time() : now + 1;
            int step = random.nextInt(30) == 0 ? random.nextInt(3) * 1_000_000 + random.nextInt(3) - 1 : step(100_000);
            long v = value(kindOf(s));
            long rise = kindOf(s) == 1 ? random.nextInt(2) : random.nextInt(4) == 0 ? value(0) : random.nextInt(9) - 2;
            int n = random.nextInt(30) == 0 ? random.nextInt(60) - 10 : 1 + random.nextInt(40);
            same("fill(" + s + ", " + t + ", " + step + ", " + v + ", " + rise + ", " + n + ")",
                river.fill(s, t, step, v, rise, n), model.fill(s, t, step, v, rise, n));
            Row row = model.get(s);
            if (row != null && !row.blocks.isEmpty()) {
                now = Math.max(now, row.lastMain());
            }
        }

        private void change() {
            int s = number();
            int r = random.nextInt(5);
            if (r < 2) {
                same("merge(" + s + ")", river.merge(s), model.merge(s));
            } else if (r < 4) {
                if (random.nextBoolean()) {
                    same("merge(" + s + ")", river.merge(s), model.merge(s));
                }
                int w = random.nextInt(20) == 0 ? random.nextInt(3) * 500_000 + random.nextInt(3) - 1 : width();
                int t = random.nextInt(10) == 0 ? random.nextInt(now + 2) - 1 : (int) (random.nextDouble() * now) / Math.max(1, w) * w;
                same("thin(" + s + ", " + t + ", " + w + ")", river.thin(s, t, w), model.thin(s, t, w));
            } else {
                int t = random.nextInt(30) == 0 ? random.nextInt() : (int) (now * random.nextDouble() * random.nextDouble());
                same("drop(" + s + ", " + t + ")", river.drop(s, t), model.drop(s, t));
            }
        }

        private int width() {
            int[] widths = {1, 5, 10, 20, 60, 100, 1000, 10_000, 100_000, 1_000_000};
            int top = clock == 0 ? 5 : clock == 1 ? 7 : widths.length;
            return widths[random.nextInt(top)];
        }

        private int blockNumber(int s) {
            int n = model.get(s) == null ? 0 : model.get(s).blocks.size();
            return random.nextInt(30) == 0 ? random.nextInt(n + 4) - 2 : n == 0 ? 0 : random.nextInt(3) == 0 ? n - 1 : random.nextInt(n);
        }

        private void tear() {
            int s = number();
            int i = blockNumber(s);
            int k = random.nextInt(10) == 0 ? random.nextInt(250) - 2 : random.nextInt(12);
            int mask = random.nextInt(10) == 0 ? random.nextInt(300) - 20 : random.nextInt(3) == 0 ? random.nextInt(256) : 1;
            String call = "tear(" + s + ", " + i + ", " + k + ", " + mask + ")";
            same(call, river.tear(s, i, k, mask), model.tear(s, i, k, mask));
            // Most are mended at once, that the run stays rich.
            if (random.nextInt(mending) != 0) {
                if (random.nextBoolean()) {
                    ask();
                    put();
                }
                same(call, river.tear(s, i, k, mask), model.tear(s, i, k, mask));
            }
        }

        private void look() {
            int s = number();
            int i = blockNumber(s);
            int k = random.nextInt(18) - 1;
            int what = random.nextInt(12) - 1;
            String block = "(" + s + ", " + i + ", ";
            switch (random.nextInt(7)) {
                case 0: same("block" + block + what + ")", river.block(s, i, what), model.block(s, i, what)); break;
                case 1: what = random.nextInt(5) - 1;
                    same("head" + block + what + ")", river.head(s, i, what), model.head(s, i, what)); break;
                case 2: k = random.nextInt(4) == 0 ? random.nextInt(240) - 2 : random.nextInt(40);
                    same("at" + block + k + ")", river.at(s, i, k), model.at(s, i, k)); break;
                case 3: same("cost" + block + k + ")", river.cost(s, i, k), model.cost(s, i, k)); break;
                case 4: what = random.nextInt(4) - 1;
                    same("point" + block + k + ", " + what + ")", river.point(s, i, k, what), model.point(s, i, k, what)); break;
                case 5: k = random.nextInt(lates(s) + 2) - 1; what = random.nextInt(4) - 1;
                    same("late(" + s + ", " + k + ", " + what + ")", river.late(s, k, what), model.late(s, k, what)); break;
                default: k = random.nextInt(spans(s) + 2) - 1;
                    same("span(" + s + ", " + k + ", " + what + ")", river.span(s, k, what), model.span(s, k, what));
            }
        }

        private int lates(int s) {
            return model.get(s) == null ? 0 : model.get(s).late.size();
        }

        private int spans(int s) {
            return model.get(s) == null ? 0 : model.get(s).spans.size();
        }

        private void ask() {
            int s = number();
            int a = random.nextInt(30) == 0 ? -1 : random.nextInt(3) == 0 ? 0 : edge(s);
            int b = random.nextInt(30) == 0 ? a : random.nextInt(6) == 0 ? Integer.MAX_VALUE : Math.max(edge(s), a + 1);
            String window = "(" + s + ", " + a + ", " + b;
            boolean flag = random.nextBoolean();
            switch (random.nextInt(8)) {
                case 0: same("count" + window + ")", river.count(s, a, b), model.count(s, a, b)); break;
                case 1: same("sum" + window + ")", river.sum(s, a, b), model.sum(s, a, b)); break;
                case 2: same("least" + window + ", " + flag + ")", river.least(s, a, b, flag), model.least(s, a, b, flag)); break;
                case 3: same("rise" + window + ")", river.rise(s, a, b), model.rise(s, a, b)); break;
                case 4: long v = value(2);
                    same("level" + window + ", " + v + ")", river.level(s, a, b, v), model.level(s, a, b, v)); break;
                case 5: same("value" + window + ", " + flag + ")", river.value(s, a, b, flag), model.value(s, a, b, flag)); break;
                default: int key = random.nextInt(20) == 0 ? random.nextInt(12) - 2 : random.nextInt(2);
                    int label = random.nextInt(20) == 0 ? random.nextInt(20) - 3 : random.nextInt(3);
                    int what = random.nextInt(20) == 0 ? random.nextInt(5) - 2 : random.nextInt(2);
                    same("group(" + key + ", " + label + ", " + a + ", " + b + ", " + what + ")",
                        river.group(key, label, a, b, what), model.group(key, label, a, b, what));
            }
            for (int what = 0; what < 3; what++) {
                same("scan(" + what + ")", river.scan(what), model.scan(what));
            }
        }

        /** A time, mostly at or beside an edge of a block, a span or a late point. */
        private int edge(int s) {
            Row row = model.get(s);
            List<Integer> edges = new ArrayList<>();
            if (row != null) {
                for (Block b : row.blocks) {
                    edges.add(b.first());
                    edges.add(b.last());
                }
                for (long[] p : row.spans) {
                    edges.add((int) p[0]);
                    edges.add((int) p[1]);
                }
                edges.addAll(row.late.keySet());
            }
            if (edges.isEmpty() || random.nextInt(5) == 0) {
                return random.nextInt(now + 2);
            }
            return Math.max(0, edges.get(random.nextInt(edges.size())) + random.nextInt(3) - 1);
        }

        private void about() {
            int s = number();
            int what = random.nextInt(10) - 1;
            same("about(" + s + ", " + what + ")", river.about(s, what), model.about(s, what));
            int key = random.nextInt(20) == 0 ? random.nextInt(12) - 2 : random.nextInt(2);
            int v = random.nextInt(5) - 1;
            int other = random.nextInt(20) == 0 ? random.nextInt(12) - 2 : random.nextInt(3) - 1;
            int w = random.nextInt(5) - 1;
            int i = random.nextInt(4) - 1;
            same("match(" + key + ", " + v + ", " + other + ", " + w + ", " + i + ")",
                river.match(key, v, other, w, i), model.match(key, v, other, w, i));
        }
    }

    /** A block of the model: its points as they are, its bits as a text. */
    private static final class Block {
        final List<long[]> points = new ArrayList<>();
        final List<Integer> costs = new ArrayList<>();
        String bits = "";
        int[] made = {};
        int[] now = {};
        String frame = null;

        int first() {
            return (int) points.get(0)[0];
        }

        int last() {
            return (int) points.get(points.size() - 1)[0];
        }

        boolean torn() {
            return !Arrays.equals(made, now);
        }

        boolean touches(int a, int b) {
            return last() >= a && first() <= b - 1;
        }

        void add(int time, long value) {
            String more;
            int n = points.size();
            if (n == 0) {
                more = bin(time, 32) + bin(value, 64);
            } else {
                long[] before = points.get(n - 1);
                long step = n == 1 ? 0 : before[0] - points.get(n - 2)[0];
                more = timeBits(time - before[0] - step) + valueBits(before[1], value);
            }
            points.add(new long[] {time, value});
            costs.add(more.length());
            bits += more;
            String whole = bits;
            while (whole.length() % 8 != 0) {
                whole += "0";
            }
            made = new int[whole.length() / 8];
            for (int k = 0; k < made.length; k++) {
                made[k] = Integer.parseInt(whole.substring(8 * k, 8 * k + 8), 2);
            }
            now = made.clone();
        }

        static String bin(long v, int n) {
            StringBuilder text = new StringBuilder();
            for (int i = n - 1; i >= 0; i--) {
                text.append((v >> i & 1) == 1 ? '1' : '0');
            }
            return text.toString();
        }

        static String timeBits(long d) {
            if (d == 0) {
                return "0";
            }
            if (d >= -63 && d <= 64) {
                return "10" + bin(d + 63, 7);
            }
            if (d >= -255 && d <= 256) {
                return "110" + bin(d + 255, 9);
            }
            if (d >= -2047 && d <= 2048) {
                return "1110" + bin(d + 2047, 12);
            }
            return "1111" + bin(d, 32);
        }

        /** The frame is a text of 64 with 'x' at its places and '.' elsewhere. */
        String valueBits(long before, long value) {
            String x = bin(before ^ value, 64);
            if (!x.contains("1")) {
                return "0";
            }
            if (frame != null) {
                boolean fits = true;
                StringBuilder in = new StringBuilder();
                for (int i = 0; i < 64; i++) {
                    if (frame.charAt(i) == 'x') {
                        in.append(x.charAt(i));
                    } else if (x.charAt(i) == '1') {
                        fits = false;
                    }
                }
                if (fits) {
                    return "10" + in;
                }
            }
            int from = x.indexOf('1');
            int to = x.lastIndexOf('1') + 1;
            frame = ".".repeat(from) + "x".repeat(to - from) + ".".repeat(64 - to);
            return "11" + bin(from, 6) + bin(to - from - 1, 6) + x.substring(from, to);
        }
    }

    /** A series of the model. A span is begin, end, how many, sum, least, greatest, first, last. */
    private static final class Row {
        final int kind;
        final int[] labels = new int[8];
        final List<long[]> spans = new ArrayList<>();
        List<Block> blocks = new ArrayList<>();
        final TreeMap<Integer, Long> late = new TreeMap<>();

        Row(int kind) {
            this.kind = kind;
            Arrays.fill(labels, -1);
        }

        int lastMain() {
            return blocks.get(blocks.size() - 1).last();
        }

        int mains() {
            int n = 0;
            for (Block b : blocks) {
                n += b.points.size();
            }
            return n;
        }

        int torn() {
            int n = 0;
            for (Block b : blocks) {
                n += b.torn() ? 1 : 0;
            }
            return n;
        }

        long end() {
            return spans.isEmpty() ? Long.MIN_VALUE : spans.get(spans.size() - 1)[1];
        }

        TreeMap<Integer, Long> points() {
            TreeMap<Integer, Long> all = new TreeMap<>();
            for (Block b : blocks) {
                if (!b.torn()) {
                    for (long[] p : b.points) {
                        all.put((int) p[0], p[1]);
                    }
                }
            }
            all.putAll(late);
            return all;
        }

        void anew(TreeMap<Integer, Long> points) {
            blocks = new ArrayList<>();
            int n = 0;
            for (Integer t : points.keySet()) {
                if (n % 16 == 0) {
                    blocks.add(new Block());
                }
                blocks.get(blocks.size() - 1).add(t, points.get(t));
                n++;
            }
        }

        int put(int t, long v) {
            if (t < 0 || t > 1_000_000_000 || Math.abs((double) v) > 1e12 && Math.abs((double) v) >= 1e12 + 1) {
                return -2;
            }
            if (kind == 1 && v != 0 && v != 1 || kind == 3 && v < 0) {
                return -2;
            }
            if ((blocks.isEmpty() || t > lastMain()) && t >= end()) {
                if (mains() == 300) {
                    return -5;
                }
                Block b = blocks.isEmpty() ? null : blocks.get(blocks.size() - 1);
                if (b == null || b.points.size() == 16 || b.torn()) {
                    b = new Block();
                    blocks.add(b);
                }
                b.add(t, v);
                return 1;
            }
            if (t >= end()) {
                if (late.containsKey(t)) {
                    late.put(t, v);
                    return 3;
                }
                if (late.size() == 40) {
                    return -5;
                }
                late.put(t, v);
                return 2;
            }
            return 0;
        }
    }

    /** The whole of the document over plain lists. */
    private static final class Model {
        static final long NO = Long.MIN_VALUE;
        final List<Row> all = new ArrayList<>();
        int scanned = 0;
        int cut = 0;
        int torn = 0;

        Row get(int s) {
            return s < 0 || s >= all.size() ? null : all.get(s);
        }

        Block get(int s, int i) {
            Row r = get(s);
            return r == null || i < 0 || i >= r.blocks.size() ? null : r.blocks.get(i);
        }

        int series(int kind) {
            if (kind < 0 || kind > 3) {
                return -2;
            }
            if (all.size() == 8) {
                return -5;
            }
            all.add(new Row(kind));
            return all.size() - 1;
        }

        int label(int s, int key, int v) {
            if (get(s) == null) {
                return -1;
            }
            if (key < 0 || key > 7 || v < -1 || v > 15) {
                return -2;
            }
            int was = get(s).labels[key];
            get(s).labels[key] = v;
            return was + 1;
        }

        boolean has(Row r, int key, int v) {
            return key >= 0 && key <= 7 && v >= 0 && v <= 15 && r.labels[key] == v;
        }

        int match(int key, int v, int other, int w, int i) {
            List<Integer> found = new ArrayList<>();
            for (int n = 0; n < all.size(); n++) {
                if (has(all.get(n), key, v) && (other < 0 || has(all.get(n), other, w))) {
                    found.add(n);
                }
            }
            return i < 0 || i >= found.size() ? -1 : found.get(i);
        }

        int put(int s, int t, long v) {
            return get(s) == null ? -1 : get(s).put(t, v);
        }

        int fill(int s, int t, int step, long v, long rise, int n) {
            if (get(s) == null) {
                return -1;
            }
            if (n < 1 || n > 40 || step < 1 || step > 1_000_000 || rise < -1_000_000_000_000L || rise > 1_000_000_000_000L) {
                return -2;
            }
            for (int i = 0; i < n; i++) {
                if (get(s).put(t + i * step, v + i * rise) != 1) {
                    return i;
                }
            }
            return n;
        }

        int merge(int s) {
            Row r = get(s);
            if (r == null) {
                return -1;
            }
            if (r.torn() > 0) {
                return -4;
            }
            TreeMap<Integer, Long> points = r.points();
            if (points.size() > 300) {
                return -5;
            }
            r.anew(points);
            r.late.clear();
            return points.size();
        }

        int thin(int s, int t, int w) {
            Row r = get(s);
            if (r == null) {
                return -1;
            }
            if (w < 1 || w > 1_000_000 || t < 0 || t > 1_000_000_000 || t % w != 0) {
                return -2;
            }
            if (!r.spans.isEmpty() && (t < r.end() || r.end() % w != 0)) {
                return -2;
            }
            if (!r.late.isEmpty() || r.torn() > 0) {
                return -4;
            }
            TreeMap<Integer, long[]> fresh = new TreeMap<>();
            TreeMap<Integer, Long> points = r.points();
            for (Integer time : points.headMap(t).keySet()) {
                long v = points.get(time);
                int k = time / w;
                long[] p = fresh.computeIfAbsent(k, x -> new long[] {(long) x * w, (x + 1L) * w, 0, 0, v, v, v, v});
                p[2]++;
                p[3] += v;
                p[4] = Math.min(p[4], v);
                p[5] = Math.max(p[5], v);
                p[7] = v;
            }
            if (r.spans.size() + fresh.size() > 60) {
                return -5;
            }
            r.spans.addAll(fresh.values());
            r.anew(new TreeMap<>(points.tailMap(t)));
            return r.spans.size();
        }

        int drop(int s, int t) {
            Row r = get(s);
            if (r == null) {
                return -1;
            }
            int before = r.spans.size() + r.blocks.size();
            r.spans.removeIf(p -> p[1] <= t);
            r.blocks.removeIf(b -> b.last() < t);
            r.late.keySet().removeIf(k -> k < t);
            return before - r.spans.size() - r.blocks.size();
        }

        int block(int s, int i, int what) {
            Block b = get(s, i);
            if (b == null || what < 0 || what > 6) {
                return -1;
            }
            int check = 0;
            for (int x : b.made) {
                check = (check + x) % 256;
            }
            return new int[] {b.points.size(), b.first(), b.last(), b.made.length, check, b.torn() ? 1 : 0, b.bits.length()}[what];
        }

        long head(int s, int i, int what) {
            Block b = get(s, i);
            if (b == null || what < 0 || what > 2) {
                return NO;
            }
            long[] found = {Long.MAX_VALUE, Long.MIN_VALUE, 0};
            for (long[] p : b.points) {
                found[0] = Math.min(found[0], p[1]);
                found[1] = Math.max(found[1], p[1]);
                found[2] += p[1];
            }
            return found[what];
        }

        int at(int s, int i, int k) {
            Block b = get(s, i);
            return b == null || k < 0 || k >= b.now.length ? -1 : b.now[k];
        }

        int tear(int s, int i, int k, int mask) {
            if (at(s, i, k) == -1) {
                return -1;
            }
            if (mask < 0 || mask > 255) {
                return -2;
            }
            return get(s, i).now[k] ^= mask;
        }

        int cost(int s, int i, int k) {
            Block b = get(s, i);
            if (b == null || k < 0 || k >= b.points.size()) {
                return -1;
            }
            return b.torn() ? -4 : b.costs.get(k);
        }

        long point(int s, int i, int k, int what) {
            Block b = get(s, i);
            if (b == null || k < 0 || k >= b.points.size() || what < 0 || what > 1 || b.torn()) {
                return NO;
            }
            return b.points.get(k)[what];
        }

        long late(int s, int k, int what) {
            Row r = get(s);
            if (r == null || k < 0 || k >= r.late.size() || what < 0 || what > 1) {
                return NO;
            }
            Integer t = new ArrayList<>(r.late.keySet()).get(k);
            return what == 0 ? t : r.late.get(t);
        }

        long span(int s, int i, int what) {
            Row r = get(s);
            return r == null || i < 0 || i >= r.spans.size() || what < 0 || what > 7 ? NO : r.spans.get(i)[what];
        }

        /** How many, sum, least, greatest; tells cut spans, torn blocks, scanned points too. */
        long[] tally(List<Row> rows, int a, int b) {
            scanned = 0;
            cut = 0;
            torn = 0;
            long[] f = {0, 0, Long.MAX_VALUE, Long.MIN_VALUE};
            for (Row r : rows) {
                for (long[] p : r.spans) {
                    if (p[0] >= a && p[1] <= b) {
                        f[0] += p[2];
                        f[1] += p[3];
                        f[2] = Math.min(f[2], p[4]);
                        f[3] = Math.max(f[3], p[5]);
                    } else if (p[0] <= b - 1 && p[1] - 1 >= a) {
                        cut++;
                    }
                }
                for (Block k : r.blocks) {
                    boolean whole = k.first() >= a && k.last() <= b - 1 && r.late.subMap(k.first(), true, k.last(), true).isEmpty();
                    if (k.touches(a, b)) {
                        torn += k.torn() ? 1 : 0;
                        scanned += k.torn() || whole ? 0 : k.points.size();
                    }
                }
                for (long v : r.points().subMap(a, b).values()) {
                    f[0]++;
                    f[1] += v;
                    f[2] = Math.min(f[2], v);
                    f[3] = Math.max(f[3], v);
                }
            }
            return f;
        }

        void unpacking(Row r, int a, int b, int from) {
            scanned = 0;
            cut = 0;
            torn = 0;
            for (Block k : r.blocks) {
                if (k.torn()) {
                    torn += k.touches(a, b) ? 1 : 0;
                } else if (k.touches(from, b)) {
                    scanned += k.points.size();
                }
            }
        }

        int count(int s, int a, int b) {
            if (get(s) == null) {
                return -1;
            }
            return a < 0 || b <= a ? -2 : (int) tally(List.of(get(s)), a, b)[0];
        }

        boolean refused(int s, int a, int b) {
            return get(s) == null || a < 0 || b <= a;
        }

        long sum(int s, int a, int b) {
            return refused(s, a, b) ? NO : tally(List.of(get(s)), a, b)[1];
        }

        long least(int s, int a, int b, boolean most) {
            if (refused(s, a, b)) {
                return NO;
            }
            long[] f = tally(List.of(get(s)), a, b);
            return f[0] == 0 ? NO : most ? f[3] : f[2];
        }

        long rise(int s, int a, int b) {
            if (refused(s, a, b) || get(s).kind != 3) {
                return NO;
            }
            unpacking(get(s), a, b, a);
            long found = 0;
            Long before = null;
            for (Long v : get(s).points().subMap(a, b).values()) {
                found += before == null ? 0 : v >= before ? v - before : v;
                before = v;
            }
            return found;
        }

        long level(int s, int a, int b, long v) {
            if (refused(s, a, b) || get(s).kind != 2) {
                return NO;
            }
            unpacking(get(s), a, b, 0);
            long found = 0;
            TreeMap<Integer, Long> points = get(s).points();
            for (Integer t : points.headMap(b).keySet()) {
                Integer next = points.higherKey(t);
                long from = Math.max(a, t);
                long to = next == null || next > b ? b : next;
                if (points.get(t) == v && to > from) {
                    found += to - from;
                }
            }
            return found;
        }

        long value(int s, int a, int b, boolean last) {
            if (refused(s, a, b)) {
                return NO;
            }
            unpacking(get(s), a, b, a);
            List<Long> found = new ArrayList<>(get(s).points().subMap(a, b).values());
            return found.isEmpty() ? NO : found.get(last ? found.size() - 1 : 0);
        }

        long group(int key, int v, int a, int b, int what) {
            if (key < 0 || key > 7 || v < 0 || v > 15 || a < 0 || b <= a || what < 0 || what > 1) {
                return NO;
            }
            List<Row> rows = new ArrayList<>(all);
            rows.removeIf(r -> !has(r, key, v));
            return tally(rows, a, b)[what];
        }

        int scan(int what) {
            return what == 0 ? scanned : what == 1 ? cut : what == 2 ? torn : -1;
        }

        int about(int s, int what) {
            if (s == -1 && what == 0) {
                return all.size();
            }
            Row r = get(s);
            if (r == null || what < 0 || what > 6) {
                return -1;
            }
            int bits = 0;
            for (Block b : r.blocks) {
                bits += b.bits.length();
            }
            return new int[] {r.kind, r.blocks.size(), r.spans.size(), r.late.size(), r.mains(), bits, r.torn()}[what];
        }
    }
}
