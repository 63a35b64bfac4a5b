import java.util.Arrays;

/** A store for rows of numbers by time, packed bit by bit in blocks with heads. */
public final class NumberRiver {
    public static final int NONE = -1, BAD = -2, KIND = -3, STATE = -4, FULL = -5;
    public static final long NO = Long.MIN_VALUE;

    private static final int MOST_SERIES = 8;
    private static final int KINDS = 4, FLAG = 1, LEVEL = 2, SUM = 3;
    private static final int KEYS = 8, LABELS = 16, UNLABELLED = -1;
    private static final int MOST_TIME = 1_000_000_000;
    private static final long MOST_VALUE = 1_000_000_000_000L;
    private static final int MOST_MAIN = 300, MOST_LATE = 40, MOST_SPANS = 60;
    private static final int MOST_FILL = 40, MOST_STEP = 1_000_000, MOST_WIDTH = 1_000_000;
    private static final int PAST = 0, MAIN = 1, LATE = 2, REPLACED = 3;
    private static final int BLOCK_POINTS = 16;
    private static final int TIME_BITS = 32, VALUE_BITS = 64, FRAME_NUMBER_BITS = 6;

    /** The dearest block: 96 bits, then 15 points of 4 + 32 and 2 + 6 + 6 + 64 bits each. */
    private static final int BLOCK_BYTES = (96 + 15 * 114 + 7) / 8;

    /** The forms in which a change of step is told: form f begins with f ones. */
    private static final int[] STEP_BITS = {0, 7, 9, 12, 32};
    private static final int[] STEP_BASE = {0, 63, 255, 2047, 0};
    private static final int WIDEST_FORM = 4;

    private final Series[] rows = new Series[MOST_SERIES];
    private int rowCount = 0;
    private final Gatherer gatherer = new Gatherer();
    private final Question question = new Question();

    public NumberRiver() {
    }

    public int series(int kind) {
        if (kind < 0 || kind >= KINDS) {
            return BAD;
        }
        if (rowCount < 0 || rowCount >= rows.length) {
            return FULL;
        }
        rows[rowCount] = new Series(kind);
        rowCount++;
        return rowCount - 1;
    }

    public int label(int series, int key, int v) {
        Series s = seriesAt(series);
        if (s == null) {
            return NONE;
        }
        if (!isKey(key) || (v != UNLABELLED && !isLabel(v))) {
            return BAD;
        }
        int before = s.labelOf(key);
        s.setLabel(key, v);
        return before + 1;
    }

    public int match(int key, int v, int other, int w, int i) {
        int seen = 0;
        for (int n = 0; n < rowCount; n++) {
            Series s = seriesAt(n);
            if (s == null || !s.bears(key, v) || (other >= 0 && !s.bears(other, w))) {
                continue;
            }
            if (seen == i) {
                return n;
            }
            seen++;
        }
        return NONE;
    }

    public int put(int series, int time, long value) {
        Series s = seriesAt(series);
        if (s == null) {
            return NONE;
        }
        return s.place(time, value);
    }

    public int fill(int series, int time, int step, long value, long rise, int n) {
        Series s = seriesAt(series);
        if (s == null) {
            return NONE;
        }
        if (n < 1 || n > MOST_FILL || step < 1 || step > MOST_STEP || !isValue(rise)) {
            return BAD;
        }
        int t = time;
        long v = value;
        for (int done = 0; done < n; done++) {
            if (s.place(t, v) != MAIN) {
                return done;
            }
            t += step;
            v += rise;
        }
        return n;
    }

    public int merge(int series) {
        Series s = seriesAt(series);
        if (s == null) {
            return NONE;
        }
        if (s.tornBlocks() > 0) {
            return STATE;
        }
        gatherer.gatherAll(s);
        if (gatherer.size > MOST_MAIN) {
            return FULL;
        }
        s.rebuild(gatherer, 0);
        s.lateCount = 0;
        return gatherer.size;
    }

    public int thin(int series, int t, int w) {
        Series s = seriesAt(series);
        if (s == null) {
            return NONE;
        }
        if (w < 1 || w > MOST_WIDTH || !isTime(t) || t % w != 0) {
            return BAD;
        }
        if (t < s.spansEnd() || s.spansEnd() % w != 0) {
            return BAD;
        }
        if (s.lateCount > 0 || s.tornBlocks() > 0) {
            return STATE;
        }
        gatherer.gatherAll(s);
        int below = gatherer.sizeBelow(t);
        if (s.spanCount + gatherer.stretches(below, w) > MOST_SPANS) {
            return FULL;
        }
        s.addSpans(gatherer, below, w);
        s.rebuild(gatherer, below);
        return s.spanCount;
    }

    public int drop(int series, int t) {
        Series s = seriesAt(series);
        if (s == null) {
            return NONE;
        }
        s.dropLate(t);
        return s.dropSpans(t) + s.dropBlocks(t);
    }

    public int block(int series, int i, int what) {
        Block b = blockOf(series, i);
        if (b == null) {
            return NONE;
        }
        switch (what) {
            case 0: return b.size;
            case 1: return b.first;
            case 2: return b.last;
            case 3: return b.byteCount();
            case 4: return b.check();
            case 5: return b.isTorn() ? 1 : 0;
            case 6: return b.bits;
            default: return NONE;
        }
    }

    public long head(int series, int i, int what) {
        Block b = blockOf(series, i);
        if (b == null) {
            return NO;
        }
        switch (what) {
            case 0: return b.low;
            case 1: return b.high;
            case 2: return b.total;
            default: return NO;
        }
    }

    public int at(int series, int i, int k) {
        Block b = blockOf(series, i);
        if (b == null || !b.hasByte(k)) {
            return NONE;
        }
        return b.byteNow(k);
    }

    public int tear(int series, int i, int k, int mask) {
        Block b = blockOf(series, i);
        if (b == null || !b.hasByte(k)) {
            return NONE;
        }
        if (mask < 0 || mask > 255) {
            return BAD;
        }
        b.flip(k, mask);
        return b.byteNow(k);
    }

    public int cost(int series, int i, int k) {
        Block b = blockOf(series, i);
        if (b == null || !b.hasPoint(k)) {
            return NONE;
        }
        if (b.isTorn()) {
            return STATE;
        }
        return gatherer.readTo(b, k).pointBits;
    }

    public long point(int series, int i, int k, int what) {
        Block b = blockOf(series, i);
        if (b == null || !b.hasPoint(k) || b.isTorn()) {
            return NO;
        }
        Reader r = gatherer.readTo(b, k);
        switch (what) {
            case 0: return r.time;
            case 1: return r.value;
            default: return NO;
        }
    }

    public long late(int series, int k, int what) {
        Series s = seriesAt(series);
        if (s == null || !s.hasLate(k)) {
            return NO;
        }
        switch (what) {
            case 0: return s.lateTime(k);
            case 1: return s.lateValue(k);
            default: return NO;
        }
    }

    public long span(int series, int i, int what) {
        Series s = seriesAt(series);
        Span p = s == null ? null : s.spanAt(i);
        if (p == null) {
            return NO;
        }
        switch (what) {
            case 0: return p.begin;
            case 1: return p.end;
            case 2: return p.size;
            case 3: return p.total;
            case 4: return p.low;
            case 5: return p.high;
            case 6: return p.firstValue;
            case 7: return p.lastValue;
            default: return NO;
        }
    }

    public int count(int series, int a, int b) {
        Series s = seriesAt(series);
        if (s == null) {
            return NONE;
        }
        if (!isWindow(a, b)) {
            return BAD;
        }
        question.begin(a, b);
        question.lookByHeads(s, gatherer);
        return question.size;
    }

    public long sum(int series, int a, int b) {
        Series s = seriesAt(series);
        if (s == null || !isWindow(a, b)) {
            return NO;
        }
        question.begin(a, b);
        question.lookByHeads(s, gatherer);
        return question.total;
    }

    public long least(int series, int a, int b, boolean most) {
        Series s = seriesAt(series);
        if (s == null || !isWindow(a, b)) {
            return NO;
        }
        question.begin(a, b);
        question.lookByHeads(s, gatherer);
        if (question.size == 0) {
            return NO;
        }
        return most ? question.high : question.low;
    }

    public long rise(int series, int a, int b) {
        Series s = seriesAt(series);
        if (s == null || !isWindow(a, b) || s.kind != SUM) {
            return NO;
        }
        question.begin(a, b);
        question.lookByPoints(s, a, gatherer);
        return gatherer.risen();
    }

    public long level(int series, int a, int b, long v) {
        Series s = seriesAt(series);
        if (s == null || !isWindow(a, b) || s.kind != LEVEL) {
            return NO;
        }
        question.begin(a, b);
        // A level that holds in the window may have begun at any time before it.
        question.lookByPoints(s, 0, gatherer);
        return gatherer.timeAt(v, a, b);
    }

    public long value(int series, int a, int b, boolean last) {
        Series s = seriesAt(series);
        if (s == null || !isWindow(a, b)) {
            return NO;
        }
        question.begin(a, b);
        question.lookByPoints(s, a, gatherer);
        if (gatherer.size == 0) {
            return NO;
        }
        return gatherer.valueAt(last ? gatherer.size - 1 : 0);
    }

    public long group(int key, int v, int a, int b, int what) {
        if (!isKey(key) || !isLabel(v) || what < 0 || what > 1 || !isWindow(a, b)) {
            return NO;
        }
        question.begin(a, b);
        for (int n = 0; n < rowCount; n++) {
            Series s = seriesAt(n);
            if (s != null && s.bears(key, v)) {
                question.lookByHeads(s, gatherer);
            }
        }
        return what == 0 ? question.size : question.total;
    }

    public int scan(int what) {
        switch (what) {
            case 0: return question.scanned;
            case 1: return question.cutSpans;
            case 2: return question.tornBlocks;
            default: return NONE;
        }
    }

    public int about(int series, int what) {
        if (series == -1 && what == 0) {
            return rowCount;
        }
        Series s = seriesAt(series);
        if (s == null) {
            return NONE;
        }
        switch (what) {
            case 0: return s.kind;
            case 1: return s.blockCount;
            case 2: return s.spanCount;
            case 3: return s.lateCount;
            case 4: return s.mainPoints();
            case 5: return s.blockBits();
            case 6: return s.tornBlocks();
            default: return NONE;
        }
    }

    private Series seriesAt(int number) {
        if (number < 0 || number >= rowCount || number >= rows.length) {
            return null;
        }
        return rows[number];
    }

    private Block blockOf(int number, int i) {
        Series s = seriesAt(number);
        return s == null ? null : s.blockAt(i);
    }

    private static boolean isKey(int key) {
        return key >= 0 && key < KEYS;
    }

    private static boolean isLabel(int v) {
        return v >= 0 && v < LABELS;
    }

    private static boolean isTime(int time) {
        return time >= 0 && time <= MOST_TIME;
    }

    private static boolean isValue(long value) {
        return value >= -MOST_VALUE && value <= MOST_VALUE;
    }

    private static boolean isValueOf(int kind, long value) {
        if (kind == FLAG) {
            return value == 0 || value == 1;
        }
        return isValue(value) && (kind != SUM || value >= 0);
    }

    private static boolean isWindow(int a, int b) {
        return a >= 0 && b > a;
    }

    /** Up to 16 points, packed in bytes, with what the head tells of them. */
    private static final class Block {
        // Ints of 0 .. 255 spare the sign of Java's bytes.
        private final int[] bytes = new int[BLOCK_BYTES];
        // The bits that tear() has turned, by bytes; few blocks are ever torn.
        private int[] flips = null;
        private int flippedBytes = 0;
        private int bits = 0;
        private int size = 0;
        private int first = 0;
        private int last = 0;
        private long low = 0;
        private long high = 0;
        private long total = 0;
        // What the next point is told against.
        private int lastStep = 0;
        private long lastValue = 0;
        private int frameStart = 0;
        private int frameBits = 0;

        void clear() {
            Arrays.fill(bytes, 0);
            if (flips != null) {
                Arrays.fill(flips, 0);
            }
            flippedBytes = 0;
            bits = 0;
            size = 0;
            total = 0;
            lastStep = 0;
            frameStart = 0;
            frameBits = 0;
        }

        int byteCount() {
            return (bits + 7) / 8;
        }

        boolean hasByte(int k) {
            return k >= 0 && k < byteCount();
        }

        boolean hasPoint(int k) {
            return k >= 0 && k < size;
        }

        boolean isTorn() {
            return flippedBytes > 0;
        }

        boolean takesMore() {
            return size < BLOCK_POINTS && !isTorn();
        }

        /** Whether some time from the first to the last one is from a on and below b. */
        boolean touches(int a, int b) {
            return size > 0 && first < b && last >= a;
        }

        boolean isWithin(int a, int b) {
            return first >= a && last < b;
        }

        int byteNow(int k) {
            return k < 0 || k >= bytes.length ? 0 : bytes[k];
        }

        int byteMade(int k) {
            return byteNow(k) ^ flipOf(k);
        }

        int flipOf(int k) {
            return flips == null || k < 0 || k >= flips.length ? 0 : flips[k];
        }

        int check() {
            int sum = 0;
            int n = byteCount();
            for (int k = 0; k < n; k++) {
                sum += byteMade(k);
            }
            return sum & 255;
        }

        void flip(int k, int mask) {
            if (k < 0 || k >= BLOCK_BYTES) {
                return;
            }
            if (flips == null) {
                flips = new int[BLOCK_BYTES];
            }
            int before = flips[k];
            flips[k] = before ^ mask;
            bytes[k] ^= mask;
            flippedBytes += (flips[k] != 0 ? 1 : 0) - (before != 0 ? 1 : 0);
        }

        void append(int time, long v) {
            if (size == 0) {
                write(time, TIME_BITS);
                write(v, VALUE_BITS);
                first = time;
                low = v;
                high = v;
            } else {
                int step = time - last;
                writeStepChange(step - lastStep);
                writeValueChange(v ^ lastValue);
                lastStep = step;
            }
            last = time;
            lastValue = v;
            low = Math.min(low, v);
            high = Math.max(high, v);
            total += v;
            size++;
        }

        private void writeStepChange(int change) {
            int form = formOf(change);
            write((1 << form) - 1, form);
            if (form < WIDEST_FORM) {
                write(0, 1);
            }
            write(change + STEP_BASE[form], STEP_BITS[form]);
        }

        private static int formOf(int change) {
            if (change == 0) {
                return 0;
            }
            for (int form = 1; form < WIDEST_FORM; form++) {
                if (change >= -STEP_BASE[form] && change <= STEP_BASE[form] + 1) {
                    return form;
                }
            }
            return WIDEST_FORM;
        }

        private void writeValueChange(long x) {
            if (x == 0) {
                write(0, 1);
                return;
            }
            write(1, 1);
            int zerosAhead = Long.numberOfLeadingZeros(x);
            int zerosBehind = Long.numberOfTrailingZeros(x);
            int end = VALUE_BITS - zerosBehind;
            if (frameBits > 0 && zerosAhead >= frameStart && end <= frameStart + frameBits) {
                write(0, 1);
                write(x >>> (VALUE_BITS - frameStart - frameBits), frameBits);
                return;
            }
            frameStart = zerosAhead;
            frameBits = end - zerosAhead;
            write(1, 1);
            write(frameStart, FRAME_NUMBER_BITS);
            write(frameBits - 1, FRAME_NUMBER_BITS);
            write(x >>> zerosBehind, frameBits);
        }

        private void write(long number, int n) {
            for (int i = n - 1; i >= 0; i--) {
                int k = bits >> 3;
                if (((number >>> i) & 1) != 0 && k >= 0 && k < bytes.length) {
                    bytes[k] |= 128 >> (bits & 7);
                }
                bits++;
            }
        }
    }

    /** Unpacks the points of a block that is not torn, one behind the other. */
    private static final class Reader {
        private int[] bytes = new int[0];
        private int place = 0;
        private int time = 0;
        private int step = 0;
        private long value = 0;
        private int frameStart = 0;
        private int frameBits = 0;
        private int pointBits = 0;

        void open(Block b) {
            bytes = b.bytes;
            place = 0;
            step = 0;
            frameStart = 0;
            frameBits = 0;
        }

        void next() {
            int from = place;
            if (from == 0) {
                time = (int) read(TIME_BITS);
                value = read(VALUE_BITS);
            } else {
                step += readStepChange();
                time += step;
                value ^= readValueChange();
            }
            pointBits = place - from;
        }

        private int readStepChange() {
            int form = 0;
            while (form < WIDEST_FORM && read(1) == 1) {
                form++;
            }
            return (int) read(STEP_BITS[form]) - STEP_BASE[form];
        }

        private long readValueChange() {
            if (read(1) == 0) {
                return 0;
            }
            if (read(1) == 1) {
                frameStart = (int) read(FRAME_NUMBER_BITS);
                frameBits = (int) read(FRAME_NUMBER_BITS) + 1;
            }
            return read(frameBits) << (VALUE_BITS - frameStart - frameBits);
        }

        private long read(int n) {
            long number = 0;
            for (int i = 0; i < n; i++) {
                int k = place >> 3;
                int shown = k >= 0 && k < bytes.length ? bytes[k] : 0;
                number = (number << 1) | ((shown >> (7 - (place & 7))) & 1);
                place++;
            }
            return number;
        }
    }

    /** What is left of the points of a stretch that was thinned. */
    private static final class Span {
        private int begin = 0;
        private int end = 0;
        private int size = 0;
        private long total = 0;
        private long low = 0;
        private long high = 0;
        private long firstValue = 0;
        private long lastValue = 0;

        void open(int from, int to) {
            begin = from;
            end = to;
            size = 0;
            total = 0;
        }

        void take(long v) {
            if (size == 0) {
                low = v;
                high = v;
                firstValue = v;
            }
            low = Math.min(low, v);
            high = Math.max(high, v);
            lastValue = v;
            total += v;
            size++;
        }

        boolean isIn(int a, int b) {
            return begin >= a && end <= b;
        }

        boolean isCut(int a, int b) {
            return !isIn(a, b) && begin < b && end > a;
        }
    }

    /** One series: its spans, its blocks and its late points. */
    private static final class Series {
        private final int kind;
        private final int[] labels = new int[KEYS];
        // Spans and blocks behind the counted ones are spare, to be used again.
        private final Span[] spans = new Span[MOST_SPANS];
        private int spanCount = 0;
        // A torn block takes no more points, so each point may need a block of its own.
        private final Block[] blocks = new Block[MOST_MAIN];
        private int blockCount = 0;
        private final int[] lateTimes = new int[MOST_LATE];
        private final long[] lateValues = new long[MOST_LATE];
        private int lateCount = 0;

        Series(int kind) {
            this.kind = kind;
            Arrays.fill(labels, UNLABELLED);
        }

        int labelOf(int key) {
            return isKey(key) && key < labels.length ? labels[key] : UNLABELLED;
        }

        void setLabel(int key, int v) {
            if (isKey(key) && key < labels.length) {
                labels[key] = v;
            }
        }

        boolean bears(int key, int v) {
            return isLabel(v) && labelOf(key) == v;
        }

        Span spanAt(int i) {
            return i < 0 || i >= spanCount || i >= spans.length ? null : spans[i];
        }

        /** The end of the last span; 0, which bars no time, without any. */
        int spansEnd() {
            Span p = spanAt(spanCount - 1);
            return p == null ? 0 : p.end;
        }

        Block blockAt(int i) {
            return i < 0 || i >= blockCount || i >= blocks.length ? null : blocks[i];
        }

        int mainPoints() {
            int n = 0;
            for (int i = 0; i < blockCount; i++) {
                Block b = blockAt(i);
                n += b == null ? 0 : b.size;
            }
            return n;
        }

        int blockBits() {
            int n = 0;
            for (int i = 0; i < blockCount; i++) {
                Block b = blockAt(i);
                n += b == null ? 0 : b.bits;
            }
            return n;
        }

        int tornBlocks() {
            int n = 0;
            for (int i = 0; i < blockCount; i++) {
                Block b = blockAt(i);
                n += b != null && b.isTorn() ? 1 : 0;
            }
            return n;
        }

        int place(int time, long v) {
            if (!isTime(time) || !isValueOf(kind, v)) {
                return BAD;
            }
            if (time < spansEnd()) {
                return PAST;
            }
            Block b = blockAt(blockCount - 1);
            if (b != null && time <= b.last) {
                return placeLate(time, v);
            }
            if (mainPoints() >= MOST_MAIN) {
                return FULL;
            }
            appendMain(time, v);
            return MAIN;
        }

        void appendMain(int time, long v) {
            Block b = blockAt(blockCount - 1);
            if (b == null || !b.takesMore()) {
                b = openBlock();
            }
            if (b != null) {
                b.append(time, v);
            }
        }

        private Block openBlock() {
            if (blockCount < 0 || blockCount >= blocks.length) {
                return null;
            }
            Block b = blocks[blockCount];
            if (b == null) {
                b = new Block();
                blocks[blockCount] = b;
            } else {
                b.clear();
            }
            blockCount++;
            return b;
        }

        /** The points gathered, from number from on, are all the main ones, in blocks anew. */
        void rebuild(Gatherer points, int from) {
            blockCount = 0;
            for (int i = from; i < points.size; i++) {
                appendMain(points.timeOf(i), points.valueAt(i));
            }
        }

        boolean hasLate(int k) {
            return k >= 0 && k < lateCount && k < MOST_LATE;
        }

        int lateTime(int k) {
            return hasLate(k) ? lateTimes[k] : 0;
        }

        long lateValue(int k) {
            return hasLate(k) ? lateValues[k] : 0;
        }

        /** How many late points are below a time: the number of the first that is not. */
        int lateBelow(int time) {
            int k = 0;
            while (k < lateCount && lateTime(k) < time) {
                k++;
            }
            return k;
        }

        boolean hasLateFromTo(int firstTime, int lastTime) {
            int k = lateBelow(firstTime);
            return hasLate(k) && lateTime(k) <= lastTime;
        }

        private int placeLate(int time, long v) {
            int k = lateBelow(time);
            if (hasLate(k) && lateTime(k) == time) {
                lateValues[k] = v;
                return REPLACED;
            }
            if (lateCount < 0 || lateCount >= MOST_LATE) {
                return FULL;
            }
            for (int j = lateCount; j > k; j--) {
                lateTimes[j] = lateTimes[j - 1];
                lateValues[j] = lateValues[j - 1];
            }
            lateTimes[k] = time;
            lateValues[k] = v;
            lateCount++;
            return LATE;
        }

        void dropLate(int t) {
            int gone = lateBelow(t);
            int kept = lateCount - gone;
            for (int k = 0; k < kept; k++) {
                int from = k + gone;
                if (hasLate(from)) {
                    lateTimes[k] = lateTimes[from];
                    lateValues[k] = lateValues[from];
                }
            }
            lateCount = kept;
        }

        int dropSpans(int t) {
            int kept = 0;
            int before = spanCount;
            for (int i = 0; i < before; i++) {
                Span p = spanAt(i);
                if (p != null && p.end > t && kept < spans.length) {
                    spans[i] = spans[kept];
                    spans[kept] = p;
                    kept++;
                }
            }
            spanCount = kept;
            return before - kept;
        }

        int dropBlocks(int t) {
            int kept = 0;
            int before = blockCount;
            for (int i = 0; i < before; i++) {
                Block b = blockAt(i);
                if (b != null && b.last >= t && kept < blocks.length) {
                    blocks[i] = blocks[kept];
                    blocks[kept] = b;
                    kept++;
                }
            }
            blockCount = kept;
            return before - kept;
        }

        void addSpans(Gatherer points, int below, int width) {
            if (width < 1) {
                return;
            }
            for (int i = 0; i < below; i++) {
                int time = points.timeOf(i);
                Span p = spanAt(spanCount - 1);
                if (p == null || time >= p.end) {
                    int begin = time - time % width;
                    p = openSpan(begin, begin + width);
                }
                if (p != null) {
                    p.take(points.valueAt(i));
                }
            }
        }

        private Span openSpan(int begin, int end) {
            if (spanCount < 0 || spanCount >= spans.length) {
                return null;
            }
            Span p = spans[spanCount];
            if (p == null) {
                p = new Span();
                spans[spanCount] = p;
            }
            p.open(begin, end);
            spanCount++;
            return p;
        }
    }

    /** Brings the points of unpacked blocks and late points in one row, rising by times. */
    private static final class Gatherer {
        private final int[] times = new int[MOST_MAIN + MOST_LATE];
        private final long[] values = new long[MOST_MAIN + MOST_LATE];
        private int size = 0;
        private int from = 0;
        private int to = 0;
        private int nextLate = 0;
        private final Reader reader = new Reader();

        /** Points with times from a on and below b will be taken. */
        void begin(Series s, int a, int b) {
            size = 0;
            from = a;
            to = b;
            nextLate = s.lateBelow(a);
        }

        void unpack(Series s, Block b) {
            reader.open(b);
            for (int k = 0; k < b.size; k++) {
                reader.next();
                if (reader.time >= from && reader.time < to) {
                    takeMain(s, reader.time, reader.value);
                }
            }
        }

        void finish(Series s) {
            takeLateBelow(s, to);
        }

        void gatherAll(Series s) {
            begin(s, 0, Integer.MAX_VALUE);
            for (int i = 0; i < s.blockCount; i++) {
                Block b = s.blockAt(i);
                if (b != null && !b.isTorn()) {
                    unpack(s, b);
                }
            }
            finish(s);
        }

        private void takeMain(Series s, int time, long v) {
            takeLateBelow(s, time);
            // A late point stands in for the main one of its time.
            if (s.hasLate(nextLate) && s.lateTime(nextLate) == time) {
                return;
            }
            add(time, v);
        }

        private void takeLateBelow(Series s, int time) {
            while (nextLate < s.lateCount && s.lateTime(nextLate) < time) {
                add(s.lateTime(nextLate), s.lateValue(nextLate));
                nextLate++;
            }
        }

        private void add(int time, long v) {
            if (size < 0 || size >= times.length || size >= values.length) {
                return;
            }
            times[size] = time;
            values[size] = v;
            size++;
        }

        int timeOf(int i) {
            return i < 0 || i >= size || i >= times.length ? 0 : times[i];
        }

        long valueAt(int i) {
            return i < 0 || i >= size || i >= values.length ? 0 : values[i];
        }

        /** The reader, when it has just read point k of a block. */
        Reader readTo(Block b, int k) {
            reader.open(b);
            for (int i = 0; i <= k && i < b.size; i++) {
                reader.next();
            }
            return reader;
        }

        int sizeBelow(int time) {
            int n = 0;
            while (n < size && timeOf(n) < time) {
                n++;
            }
            return n;
        }

        /** In how many stretches of a width the first points, up to number below, are. */
        int stretches(int below, int width) {
            if (width < 1) {
                return 0;
            }
            int n = 0;
            for (int i = 0; i < below; i++) {
                if (i == 0 || timeOf(i) / width != timeOf(i - 1) / width) {
                    n++;
                }
            }
            return n;
        }

        long risen() {
            long all = 0;
            for (int i = 1; i < size; i++) {
                long step = valueAt(i) - valueAt(i - 1);
                all += step >= 0 ? step : valueAt(i);
            }
            return all;
        }

        long timeAt(long v, int a, int b) {
            long all = 0;
            for (int i = 0; i < size; i++) {
                long begin = Math.max(timeOf(i), a);
                long end = i + 1 < size ? Math.min(timeOf(i + 1), b) : b;
                if (valueAt(i) == v && end > begin) {
                    all += end - begin;
                }
            }
            return all;
        }
    }

    /** The latest question that was not refused: its window, what it found, what it looked at. */
    private static final class Question {
        private int a = 0;
        private int b = 0;
        private int size = 0;
        private long total = 0;
        private long low = 0;
        private long high = 0;
        private int scanned = 0;
        private int cutSpans = 0;
        private int tornBlocks = 0;

        void begin(int from, int to) {
            a = from;
            b = to;
            size = 0;
            total = 0;
            low = 0;
            high = 0;
            scanned = 0;
            cutSpans = 0;
            tornBlocks = 0;
        }

        /** For count, sum, least and most: blocks are unpacked only where heads do not tell. */
        void lookByHeads(Series s, Gatherer points) {
            lookAtSpans(s);
            points.begin(s, a, b);
            for (int i = 0; i < s.blockCount; i++) {
                Block block = s.blockAt(i);
                if (block == null || !block.touches(a, b)) {
                    continue;
                }
                if (block.isTorn()) {
                    tornBlocks++;
                } else if (block.isWithin(a, b) && !s.hasLateFromTo(block.first, block.last)) {
                    found(block.size, block.total, block.low, block.high);
                } else {
                    points.unpack(s, block);
                    scanned += block.size;
                }
            }
            points.finish(s);
            for (int i = 0; i < points.size; i++) {
                long v = points.valueAt(i);
                found(1, v, v, v);
            }
        }

        /** For rise, level and value: gathers the points with times from a time on and below b. */
        void lookByPoints(Series s, int from, Gatherer points) {
            points.begin(s, from, b);
            for (int i = 0; i < s.blockCount; i++) {
                Block block = s.blockAt(i);
                if (block == null) {
                    continue;
                }
                if (block.isTorn()) {
                    tornBlocks += block.touches(a, b) ? 1 : 0;
                } else if (block.touches(from, b)) {
                    points.unpack(s, block);
                    scanned += block.size;
                }
            }
            points.finish(s);
        }

        private void lookAtSpans(Series s) {
            for (int i = 0; i < s.spanCount; i++) {
                Span p = s.spanAt(i);
                if (p == null) {
                    continue;
                }
                if (p.isIn(a, b)) {
                    found(p.size, p.total, p.low, p.high);
                } else if (p.isCut(a, b)) {
                    cutSpans++;
                }
            }
        }

        private void found(int n, long sum, long least, long most) {
            low = size == 0 ? least : Math.min(low, least);
            high = size == 0 ? most : Math.max(high, most);
            size += n;
            total += sum;
        }
    }
}
