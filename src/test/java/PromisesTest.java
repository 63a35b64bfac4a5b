/** Each promise of the document, with answers worked out by hand from its words. */
public final class PromisesTest {
    private static final int NONE = -1, BAD = -2, STATE = -4, FULL = -5;
    private static final long NO = Long.MIN_VALUE;
    private static final int WHOLE = 0, FLAG = 1, LEVEL = 2, SUM = 3;
    private static final int LAST_TIME = 1_000_000_000;
    private static final long TOP = 1_000_000_000_000L;
    private static int wrong = 0;
    private static int promise = 0;

    private static void due(String what, long got, long want) {
        if (got != want) {
            wrong++;
            System.out.println("promise " + promise + ": " + what + " answered " + got + ", due is " + want);
        }
    }

    public static void main(String[] args) {
        newObject();
        series();
        label();
        match();
        put();
        putAtTheLimits();
        putBesideTornBlocks();
        fill();
        merge();
        mergeAtTheLastTime();
        mergeAtTheLimits();
        thin();
        thinRefused();
        thinAtTheLimits();
        drop();
        block();
        bitsOfTimes();
        bitsOfValues();
        dearestBlock();
        head();
        at();
        tear();
        cost();
        point();
        late();
        span();
        count();
        sum();
        least();
        rise();
        level();
        value();
        group();
        scan();
        scanOfRefused();
        scanOfTorn();
        about();
        anyNumbers();
        System.out.println(wrong == 0 ? "promises: all answers are as due" : "promises: " + wrong + " answers are not as due");
        if (wrong != 0) {
            System.exit(1);
        }
    }

    private static void newObject() {
        promise = 1;
        NumberRiver x = new NumberRiver();
        due("about(-1, 0)", x.about(-1, 0), 0);
        due("about(0, 0)", x.about(0, 0), NONE);
        due("put", x.put(0, 1, 1), NONE);
        due("NONE", NumberRiver.NONE, -1);
        due("BAD", NumberRiver.BAD, -2);
        due("KIND", NumberRiver.KIND, -3);
        due("STATE", NumberRiver.STATE, -4);
        due("FULL", NumberRiver.FULL, -5);
        due("NO", NumberRiver.NO, Long.MIN_VALUE);
        NumberRiver y = Scenes.with(WHOLE);
        due("objects are apart", x.about(-1, 0), 0);
        due("objects are apart", y.about(-1, 0), 1);
    }

    private static void series() {
        promise = 2;
        NumberRiver x = new NumberRiver();
        due("series(-1)", x.series(-1), BAD);
        due("series(4)", x.series(4), BAD);
        for (int i = 0; i < 8; i++) {
            due("series number " + i, x.series(i % 4), i);
        }
        due("the ninth", x.series(0), FULL);
        due("the ninth, of no kind", x.series(4), BAD);
        due("how many", x.about(-1, 0), 8);
        for (int i = 0; i < 8; i++) {
            due("kind of " + i, x.about(i, 0), i % 4);
            due("no label of " + i, x.label(i, 7, -1), 0);
        }
    }

    private static void label() {
        promise = 3;
        NumberRiver x = Scenes.with(WHOLE, WHOLE);
        due("first label", x.label(0, 0, 0), 0);
        due("label 0 was", x.label(0, 0, 15), 1);
        due("label 15 was", x.label(0, 0, -1), 16);
        due("none was", x.label(0, 0, 3), 0);
        due("another key", x.label(0, 7, 2), 0);
        due("another series", x.label(1, 0, 2), 0);
        due("key -1", x.label(0, -1, 2), BAD);
        due("key 8", x.label(0, 8, 2), BAD);
        due("v -2", x.label(0, 0, -2), BAD);
        due("v 16", x.label(0, 0, 16), BAD);
        due("series 2", x.label(2, 0, 1), NONE);
        due("series -1 and key 8", x.label(-1, 8, 1), NONE);
        due("refusals change nothing", x.label(0, 0, 3), 4);
    }

    private static void match() {
        promise = 4;
        NumberRiver x = Scenes.with(0, 0, 0, 0);
        x.label(0, 2, 5);
        x.label(2, 2, 5);
        x.label(3, 2, 5);
        x.label(2, 4, 0);
        x.label(3, 4, 1);
        due("0th", x.match(2, 5, -1, 9, 0), 0);
        due("1st", x.match(2, 5, -1, 9, 1), 2);
        due("2nd", x.match(2, 5, -7, 9, 2), 3);
        due("3rd", x.match(2, 5, -1, 9, 3), NONE);
        due("-1st", x.match(2, 5, -1, 9, -1), NONE);
        due("with another key", x.match(2, 5, 4, 1, 0), 3);
        due("with another key's 0", x.match(2, 5, 4, 0, 0), 2);
        due("with another key, 1st", x.match(2, 5, 4, 1, 1), NONE);
        due("other key 0 counts", x.match(2, 5, 0, 0, 0), NONE);
        due("both keys the same", x.match(2, 5, 2, 5, 1), 2);
        due("both keys the same, two values", x.match(2, 5, 2, 4, 0), NONE);
        due("having none is no label", x.match(0, -1, -1, 0, 0), NONE);
        due("having none is no other label", x.match(2, 5, 0, -1, 0), NONE);
        due("key 8", x.match(8, 5, -1, 0, 0), NONE);
        due("key -1", x.match(-1, -1, -1, 0, 0), NONE);
        due("other 8", x.match(2, 5, 8, -1, 0), NONE);
        x.label(0, 2, -1);
        due("no longer", x.match(2, 5, -1, 0, 0), 2);
    }

    private static void put() {
        promise = 5;
        NumberRiver x = Scenes.with(WHOLE, FLAG, LEVEL, SUM);
        due("time -1", x.put(0, -1, 0), BAD);
        due("time above all", x.put(0, LAST_TIME + 1, 0), BAD);
        due("value above all", x.put(0, 5, TOP + 1), BAD);
        due("value below all", x.put(0, 5, -TOP - 1), BAD);
        due("no series", x.put(4, -1, 0), NONE);
        due("greatest value", x.put(0, 5, TOP), 1);
        due("least value", x.put(0, 6, -TOP), 1);
        due("same time as the last", x.put(0, 6, 1), 2);
        due("again", x.put(0, 6, 2), 3);
        due("below", x.put(0, 0, 3), 2);
        due("the last time", x.put(0, LAST_TIME, 3), 1);
        due("flag 0", x.put(1, 0, 0), 1);
        due("flag 1", x.put(1, 1, 1), 1);
        due("flag 2", x.put(1, 2, 2), BAD);
        due("flag -1", x.put(1, 2, -1), BAD);
        due("level below 0", x.put(2, 2, -TOP), 1);
        due("level", x.put(2, 3, TOP), 1);
        due("level too great", x.put(2, 4, TOP + 1), BAD);
        due("sum 0", x.put(3, 2, 0), 1);
        due("sum -1", x.put(3, 3, -1), BAD);
        due("sum", x.put(3, 3, TOP), 1);
        due("sum too great", x.put(3, 4, TOP + 1), BAD);
        due("refusals put nothing", x.about(1, 4), 2);
        due("thin", x.thin(3, 10, 10), 1);
        due("past", x.put(3, 9, 1), 0);
        due("past is not put", x.about(3, 3) + x.about(3, 4), 0);
        due("bad, though past", x.put(3, 9, -1), BAD);
        due("at the end of the last span", x.put(3, 10, 1), 1);
        due("late, not past", x.put(3, 10, 2), 2);
    }

    private static void putAtTheLimits() {
        promise = 5;
        NumberRiver x = Scenes.counted(WHOLE, 2, 300);
        due("300 are main", x.about(0, 4), 300);
        due("one more", x.put(0, 600, 0), FULL);
        due("a bad one more", x.put(0, 600, TOP + 1), BAD);
        for (int k = 0; k < 40; k++) {
            due("late " + k, x.put(0, 99 - 2 * k, k), 2);
        }
        due("late 41", x.put(0, 101, 0), FULL);
        due("in place of one", x.put(0, 99, 7), 3);
        due("late stay 40", x.about(0, 3), 40);
        due("main stay 300", x.about(0, 4), 300);
        due("the one put in place", x.late(0, 39, 1), 7);
        due("the others stay", x.late(0, 0, 1), 39);
    }

    private static void putBesideTornBlocks() {
        promise = 5;
        NumberRiver x = Scenes.with(WHOLE);
        x.put(0, 10, 1);
        x.put(0, 20, 2);
        x.tear(0, 0, 0, 128);
        due("not above a torn block's last time", x.put(0, 20, 3), 2);
        due("above it", x.put(0, 21, 4), 1);
        due("in a new block", x.about(0, 1), 2);
        due("the torn one's points are main", x.about(0, 4), 3);
        x.tear(0, 0, 0, 128);
        due("mended, but not the last", x.put(0, 22, 5), 1);
        due("of the last block", x.block(0, 1, 0), 2);
        for (int t = 23; t < 37; t++) {
            x.put(0, t, t);
        }
        due("16 in the last block", x.block(0, 1, 0), 16);
        due("one more", x.put(0, 37, 0), 1);
        due("makes a block", x.about(0, 1), 3);
        NumberRiver y = Scenes.with(WHOLE);
        for (int t = 0; t < 200; t++) {
            due("put " + t, y.put(0, t, t), 1);
            y.tear(0, t, 3, 1);
        }
        due("a block for each", y.about(0, 1), 200);
        due("all torn", y.about(0, 6), 200);
    }

    private static void fill() {
        promise = 6;
        NumberRiver x = Scenes.with(WHOLE, FLAG);
        due("40", x.fill(0, 5, 3, 7, -2, 40), 40);
        due("first time", x.point(0, 0, 0, 0), 5);
        due("last time", x.point(0, 2, 7, 0), 5 + 39 * 3);
        due("last value", x.point(0, 2, 7, 1), 7 - 39 * 2);
        due("n 0", x.fill(0, 500, 1, 0, 0, 0), BAD);
        due("n 41", x.fill(0, 500, 1, 0, 0, 41), BAD);
        due("step 0", x.fill(0, 500, 0, 0, 0, 1), BAD);
        due("step too great", x.fill(0, 500, 1_000_001, 0, 0, 1), BAD);
        due("rise too great", x.fill(0, 500, 1, 0, TOP + 1, 1), BAD);
        due("rise too small", x.fill(0, 500, 1, 0, -TOP - 1, 1), BAD);
        due("no series", x.fill(2, 500, 0, 0, 0, 0), NONE);
        due("nothing was put", x.about(0, 4), 40);
        due("greatest step and rise", x.fill(0, 1000, 1_000_000, -TOP, TOP, 3), 3);
        due("least rise", x.fill(0, 3_000_000, 1, TOP, -TOP, 3), 3);
        due("a value goes bad", x.fill(0, 4_000_000, 1, TOP - 1, 1, 5), 2);
        due("a time goes bad", x.fill(0, LAST_TIME - 1, 1, 0, 0, 5), 2);
        due("bad at once", x.fill(0, -1, 1, 0, 0, 5), 0);
        due("a value far outside", x.fill(0, 5, 1, Long.MAX_VALUE, TOP, 5), 0);
        due("late at once", x.fill(0, 6, 1, 99, 0, 5), 0);
        due("that one is put", x.about(0, 3), 1);
        due("late again", x.fill(0, 6, 1, 98, 0, 5), 0);
        due("in its place", x.late(0, 0, 1), 98);
        due("by kind", x.fill(1, 0, 1, 0, 1, 5), 2);
        due("one", x.fill(1, 5, 1, 0, 1, 1), 1);
        due("one of 40 at the least step", x.fill(1, 6, 1, 1, 0, 40), 40);
        NumberRiver y = Scenes.counted(WHOLE, 1, 290);
        due("till it is full", y.fill(0, 290, 1, 0, 0, 40), 10);
        due("300", y.about(0, 4), 300);
    }

    private static void merge() {
        promise = 7;
        NumberRiver x = Scenes.with(WHOLE, WHOLE);
        due("no series", x.merge(2), NONE);
        due("of nothing", x.merge(0), 0);
        x.fill(0, 10, 10, 1, 1, 20);
        x.put(0, 5, 50);
        x.put(0, 20, 60);
        x.put(0, 25, 70);
        due("main and late, one time twice", x.merge(0), 22);
        due("no late ones", x.about(0, 3), 0);
        due("main", x.about(0, 4), 22);
        due("16 in the first", x.block(0, 0, 0), 16);
        due("the others in the last", x.block(0, 1, 0), 6);
        due("first", x.point(0, 0, 0, 1), 50);
        due("second", x.point(0, 0, 1, 0), 10);
        due("the late one of two", x.point(0, 0, 2, 1), 60);
        due("next", x.point(0, 0, 3, 0), 25);
        due("sum of the head", x.head(0, 0, 2), 50 + 1 + 60 + 70 + sumOf(3, 14));
        x.tear(0, 1, 2, 4);
        due("torn", x.merge(0), STATE);
        x.put(0, 1000, 5);
        due("torn takes no point", x.about(0, 1), 3);
        x.tear(0, 1, 2, 4);
        due("mended", x.merge(0), 23);
        due("in blocks anew, without late ones too", x.about(0, 1), 2);
        due("7 in the last", x.block(0, 1, 0), 7);
        x.put(0, 1010, 6);
        due("put goes on behind", x.block(0, 1, 0), 8);
    }

    private static void mergeAtTheLastTime() {
        promise = 7;
        NumberRiver x = Scenes.counted(WHOLE, 10, 20);
        x.put(0, 190, -4);
        due("a late one of the last time", x.merge(0), 20);
        due("its value", x.point(0, 1, 3, 1), -4);
        due("its time", x.point(0, 1, 3, 0), 190);
    }

    private static long sumOf(int from, int to) {
        long sum = 0;
        for (int i = from; i <= to; i++) {
            sum += i;
        }
        return sum;
    }

    private static void mergeAtTheLimits() {
        promise = 7;
        NumberRiver x = Scenes.counted(WHOLE, 2, 299);
        x.put(0, 0, 5);
        x.put(0, 3, 5);
        due("300", x.merge(0), 300);
        due("19 blocks", x.about(0, 1), 19);
        x.put(0, 4, 77);
        due("one in place of a main one", x.merge(0), 300);
        x.put(0, 5, 5);
        due("301", x.merge(0), FULL);
        due("the late one stays", x.about(0, 3), 1);
        due("the main ones stay", x.about(0, 4), 300);
        x.tear(0, 0, 0, 1);
        due("torn and full", x.merge(0), STATE);
    }

    private static void thin() {
        promise = 8;
        NumberRiver x = Scenes.with(WHOLE);
        x.fill(0, 3, 7, 10, -1, 20);
        // Times 3, 10, 17, .. 136; below 40: 3 | 10 17 | 24 | 31 38.
        due("four stretches of ten", x.thin(0, 40, 10), 4);
        due("main", x.about(0, 4), 14);
        due("one block", x.about(0, 1), 1);
        due("its first time", x.block(0, 0, 1), 45);
        due("begin", x.span(0, 1, 0), 10);
        due("end", x.span(0, 1, 1), 20);
        due("how many", x.span(0, 3, 2), 2);
        due("same end, nothing more", x.thin(0, 40, 20), 4);
        due("a wider stretch", x.thin(0, 80, 40), 5);
        due("it begins at 40", x.span(0, 4, 0), 40);
        due("it has 5", x.span(0, 4, 2), 5);
        due("empty stretches make no span", x.thin(0, 1_000_000_000, 5), 14);
        due("no main ones", x.about(0, 4), 0);
        due("no blocks", x.about(0, 1), 0);
        due("the last end", x.span(0, 13, 1), 140);
        due("put behind it", x.put(0, 140, 0), 1);
        NumberRiver y = Scenes.with(WHOLE);
        due("of nothing", y.thin(0, 0, 1), 0);
        y.put(0, 0, 1);
        y.tear(0, 0, 0, 1);
        y.put(0, 5, 1);
        y.tear(0, 0, 0, 1);
        due("two blocks", y.about(0, 1), 2);
        due("nothing below", y.thin(0, 0, 1_000_000), 0);
        due("in blocks anew", y.about(0, 1), 1);
        NumberRiver z = Scenes.with(WHOLE);
        z.put(0, 0, 4);
        z.put(0, 49, 5);
        z.put(0, 50, 6);
        due("edges of a stretch", z.thin(0, 50, 50), 1);
        due("49 is in it, 50 is not", z.span(0, 0, 2), 2);
    }

    private static void thinRefused() {
        promise = 8;
        NumberRiver x = Scenes.with(WHOLE);
        x.fill(0, 0, 5, 0, 1, 20);
        due("no series", x.thin(1, 1, 0), NONE);
        due("w 0", x.thin(0, 0, 0), BAD);
        due("w -5", x.thin(0, 10, -5), BAD);
        due("w too great", x.thin(0, 0, 1_000_001), BAD);
        due("t -1", x.thin(0, -1, 1), BAD);
        due("t too great", x.thin(0, LAST_TIME + 1, 1), BAD);
        due("no multiple", x.thin(0, 21, 10), BAD);
        due("thinned", x.thin(0, 20, 20), 1);
        due("below the last end", x.thin(0, 10, 10), BAD);
        due("the last end is no multiple", x.thin(0, 60, 15), BAD);
        x.put(0, 21, 4);
        due("late", x.thin(0, 40, 10), STATE);
        due("late and bad", x.thin(0, 41, 10), BAD);
        due("merged", x.merge(0), 17);
        x.tear(0, 0, 1, 1);
        due("torn", x.thin(0, 40, 10), STATE);
        x.tear(0, 0, 1, 1);
        due("refusals change nothing", x.about(0, 4), 17);
        due("mended", x.thin(0, 40, 10), 3);
    }

    private static void thinAtTheLimits() {
        promise = 8;
        NumberRiver x = Scenes.counted(WHOLE, 1, 100);
        due("61 would be", x.thin(0, 61, 1), FULL);
        due("none is", x.about(0, 2), 0);
        due("all points stay", x.about(0, 4), 100);
        due("60", x.thin(0, 60, 1), 60);
        due("40 stay", x.about(0, 4), 40);
        due("one more", x.thin(0, 61, 1), FULL);
        due("nothing more", x.thin(0, 60, 60), 60);
        x.put(0, 70, 1);
        due("late before full", x.thin(0, 61, 1), STATE);
        due("greatest width", Scenes.counted(WHOLE, 1, 3).thin(0, 1_000_000, 1_000_000), 1);
    }

    private static void drop() {
        promise = 9;
        NumberRiver x = Scenes.with(WHOLE);
        due("no series", x.drop(1, 0), NONE);
        due("nothing", x.drop(0, Integer.MAX_VALUE), 0);
        x.fill(0, 0, 1, 0, 1, 40);
        x.fill(0, 40, 1, 40, 1, 40);
        x.thin(0, 20, 10);
        // Spans 0 .. 9, 10 .. 19; blocks 20 .. 35, 36 .. 51, 52 .. 67, 68 .. 79.
        x.put(0, 35, 1);
        x.put(0, 36, 2);
        x.put(0, 60, 3);
        due("before all", x.drop(0, Integer.MIN_VALUE), 0);
        due("not the first span's end", x.drop(0, 9), 0);
        due("the first span's end", x.drop(0, 10), 1);
        due("the second begins", x.span(0, 0, 0), 10);
        due("a block's last time", x.drop(0, 35), 1);
        due("no spans", x.about(0, 2), 0);
        due("all blocks", x.about(0, 1), 4);
        due("all late ones", x.about(0, 3), 3);
        due("above a block's last time", x.drop(0, 36), 1);
        due("late 36 stays", x.late(0, 0, 0), 36);
        due("two late ones", x.about(0, 3), 2);
        due("first block", x.block(0, 0, 1), 36);
        due("its bytes tell its points", x.point(0, 0, 15, 1), 51);
        x.tear(0, 0, 0, 3);
        due("torn ones too", x.drop(0, 60), 1);
        due("not torn", x.about(0, 6), 0);
        due("late 60", x.late(0, 0, 0), 60);
        due("rest", x.drop(0, 80), 2);
        due("no late ones", x.about(0, 3), 0);
        due("from nothing on, without spans", x.put(0, 3, 9), 1);
        due("a block used again has its own bits", x.block(0, 0, 6), 96);
        due("and is not torn", x.block(0, 0, 5), 0);
        due("its point", x.point(0, 0, 0, 1), 9);
        NumberRiver z = Scenes.with(WHOLE);
        z.put(0, 5, 1);
        z.tear(0, 0, 11, 255);
        due("a torn one alone", z.drop(0, 6), 1);
        z.put(0, 5, 1);
        due("its place is whole again", z.block(0, 0, 5), 0);
        due("its byte too", z.at(0, 0, 11), 1);
        due("its check too", z.block(0, 0, 4), 6);
        NumberRiver y = Scenes.counted(WHOLE, 1, 48);
        y.thin(0, 8, 8);
        y.tear(0, 0, 0, 1);
        y.put(0, 30, -1);
        y.put(0, 20, -2);
        due("span and torn block", y.drop(0, 24), 2);
        due("a block less", y.about(0, 1), 2);
        due("the late one kept has its value", y.late(0, 0, 1), -1);
        y.fill(0, 48, 1, 48, 1, 40);
        due("blocks go on", y.about(0, 1), 4);
        for (int t = 24; t < 88; t++) {
            due("value at " + t, y.value(0, t, t + 1, true), t == 30 ? -1 : t);
        }
        y.merge(0);
        y.thin(0, 60, 6);
        due("some spans", y.drop(0, 42), 3);
        y.thin(0, 84, 6);
        due("spans go on", y.about(0, 2), 7);
        for (int i = 0; i < 7; i++) {
            due("begin of span " + i, y.span(0, i, 0), 42 + 6 * i);
            due("first of span " + i, y.span(0, i, 6), 42 + 6 * i);
            due("last of span " + i, y.span(0, i, 7), 47 + 6 * i);
        }
    }

    private static void block() {
        promise = 10;
        NumberRiver x = Scenes.with(WHOLE);
        x.put(0, 1, 2);
        x.put(0, 2, 2);
        // 1 by 32, 2 by 64, then D = 1: 10 1000000, X = 0: 0; behind it 6 zeros.
        due("how many", x.block(0, 0, 0), 2);
        due("first", x.block(0, 0, 1), 1);
        due("last", x.block(0, 0, 2), 2);
        due("bytes", x.block(0, 0, 3), 14);
        due("check", x.block(0, 0, 4), 1 + 2 + 0xA0);
        due("torn", x.block(0, 0, 5), 0);
        due("bits", x.block(0, 0, 6), 96 + 10);
        due("what 7", x.block(0, 0, 7), NONE);
        due("what -1", x.block(0, 0, -1), NONE);
        due("block 1", x.block(0, 1, 0), NONE);
        due("block -1", x.block(0, -1, 0), NONE);
        due("series 1", x.block(1, 0, 0), NONE);
        x.tear(0, 0, 0, 255);
        due("first, torn", x.block(0, 0, 1), 1);
        due("check as it was made", x.block(0, 0, 4), 1 + 2 + 0xA0);
        due("torn", x.block(0, 0, 5), 1);
        due("bits as they were made", x.block(0, 0, 6), 106);
        NumberRiver y = Scenes.with(WHOLE);
        y.put(0, 255, -1);
        due("check modulo 256", y.block(0, 0, 4), (255 + 8 * 255) % 256);
    }

    /** What the third point costs if its step is by d other than the second one's, 5000. */
    private static int timeCost(int d) {
        NumberRiver x = Scenes.with(WHOLE);
        x.put(0, 0, 0);
        x.put(0, 5000, 0);
        x.put(0, 10000 + d, 0);
        due("time after a step other by " + d, x.point(0, 0, 2, 0), 10000 + d);
        return x.cost(0, 0, 2) - 1;
    }

    private static void bitsOfTimes() {
        promise = 14;
        int[] d = {0, 1, -1, 64, -63, 65, -64, 256, -255, 257, -256, 2048, -2047, 2049, -2048, 999_990_000 - 5000};
        int[] bits = {1, 9, 9, 9, 9, 12, 12, 12, 12, 16, 16, 16, 16, 36, 36, 36};
        for (int i = 0; i < d.length; i++) {
            due("bits of " + d[i], timeCost(d[i]), bits[i]);
        }
        promise = 12;
        NumberRiver x = Scenes.with(WHOLE);
        x.put(0, 0, 0);
        x.put(0, 5000, 0);
        x.put(0, 5001, 0);
        // 1111, 5000 by 32, 0; then D = 1 - 5000 = -4999: 1111, by 32: FFFFEC79, 0.
        due("byte 12", x.at(0, 0, 12), 0xF0);
        due("byte 13", x.at(0, 0, 13), 0x00);
        due("byte 14", x.at(0, 0, 14), 0x01);
        due("byte 15", x.at(0, 0, 15), 0x38);
        due("byte 16: 1000, 0, 111", x.at(0, 0, 16), 0x87);
        due("byte 17: 1, 1111111", x.at(0, 0, 17), 0xFF);
        due("byte 18", x.at(0, 0, 18), 0xFF);
        due("byte 19: 1, 1110110", x.at(0, 0, 19), 0xF6);
        due("byte 20: 0, 0111100", x.at(0, 0, 20), 0x3C);
        due("byte 21: 1, 0, 000000", x.at(0, 0, 21), 0x80);
        due("bits", x.block(0, 0, 6), 96 + 37 + 37);
    }

    private static void bitsOfValues() {
        promise = 14;
        NumberRiver x = Scenes.with(WHOLE);
        x.put(0, 0, 0);
        x.put(0, 1, 0b0110_1000);
        due("a frame of four", x.cost(0, 0, 1), 9 + 2 + 6 + 6 + 4);
        x.put(0, 2, 0b0110_1000 ^ 0b0010_0000);
        due("within it", x.cost(0, 0, 2), 1 + 2 + 4);
        x.put(0, 3, 0b0100_1000);
        due("the same", x.cost(0, 0, 3), 1 + 1);
        x.put(0, 4, 0b0100_1000 ^ 0b1000_0000);
        due("a one ahead of it: a frame of one", x.cost(0, 0, 4), 1 + 2 + 12 + 1);
        x.put(0, 5, 0b0100_1000);
        due("within that", x.cost(0, 0, 5), 1 + 2 + 1);
        x.put(0, 6, 0b0100_1000 ^ 0b0100_0000);
        due("a one behind it", x.cost(0, 0, 6), 1 + 2 + 12 + 1);
        x.put(0, 7, ~0b0000_1000L);
        due("all 64", x.cost(0, 0, 7), 1 + 2 + 12 + 64);
        x.put(0, 8, ~0b0000_1000L ^ 1);
        due("within all", x.cost(0, 0, 8), 1 + 2 + 64);
        due("value 7", x.point(0, 0, 7, 1), ~0b0000_1000L);
        due("value 8", x.point(0, 0, 8, 1), ~0b0000_1000L ^ 1);
        x.fill(0, 9, 1, 0, 0, 7);
        x.put(0, 20, 1);
        x.put(0, 21, 0);
        due("a new block has no frame", x.cost(0, 1, 1), 9 + 2 + 12 + 1);
        promise = 12;
        NumberRiver y = Scenes.with(WHOLE);
        y.put(0, 0, 0);
        y.put(0, 1, 0b1011_0000);
        // 10 1000000 1 1, 56 zeros: 111000, 4 bits: 000011, 1011, and zeros behind.
        due("byte 12", y.at(0, 0, 12), 0b10100000);
        due("byte 13", y.at(0, 0, 13), 0b01111100);
        due("byte 14", y.at(0, 0, 14), 0b00000111);
        due("byte 15", y.at(0, 0, 15), 0b01100000);
        due("byte 16", y.at(0, 0, 16), NONE);
    }

    /** Steps that change by far each time, and frames that grow from 53 to 64 bits. */
    private static void dearestBlock() {
        promise = 15;
        NumberRiver x = Scenes.with(WHOLE);
        int[] times = new int[16];
        long[] values = new long[16];
        for (int k = 1; k < 16; k++) {
            times[k] = times[k - 1] + (k % 2 == 0 ? 1 : 60_000_000);
            int length = Math.min(64, 52 + k);
            values[k] = values[k - 1] ^ -(1L << (64 - length));
        }
        for (int k = 0; k < 16; k++) {
            due("put " + k, x.put(0, times[k], values[k]), 1);
        }
        int bits = 96 + 15 * 36 + (67 + 78) * 6 + 3 * 66;
        due("one block", x.about(0, 1), 1);
        due("bits", x.block(0, 0, 6), bits);
        due("bytes", x.block(0, 0, 3), (bits + 7) / 8);
        for (int k = 0; k < 16; k++) {
            due("time " + k, x.point(0, 0, k, 0), times[k]);
            due("value " + k, x.point(0, 0, k, 1), values[k]);
        }
        due("its last byte can be torn", x.tear(0, 0, (bits + 7) / 8 - 1, 0), x.at(0, 0, (bits + 7) / 8 - 1));
    }

    private static void head() {
        promise = 11;
        NumberRiver x = Scenes.with(WHOLE);
        x.put(0, 1, 5);
        due("least of one", x.head(0, 0, 0), 5);
        due("greatest of one", x.head(0, 0, 1), 5);
        x.put(0, 2, -7);
        x.put(0, 3, TOP);
        due("least", x.head(0, 0, 0), -7);
        due("greatest", x.head(0, 0, 1), TOP);
        due("sum", x.head(0, 0, 2), TOP - 2);
        x.put(0, 2, 100);
        due("late ones are not in it", x.head(0, 0, 2), TOP - 2);
        x.tear(0, 0, 5, 1);
        due("torn, it stands", x.head(0, 0, 2), TOP - 2);
        due("what 3", x.head(0, 0, 3), NO);
        due("what -1", x.head(0, 0, -1), NO);
        due("block 1", x.head(0, 1, 0), NO);
        due("block -1", x.head(0, -1, 0), NO);
        due("series 1", x.head(1, 0, 0), NO);
    }

    private static void at() {
        promise = 12;
        NumberRiver x = Scenes.with(WHOLE);
        x.put(0, 0x01020384, -2);
        due("byte 0", x.at(0, 0, 0), 1);
        due("byte 1", x.at(0, 0, 1), 2);
        due("byte 3", x.at(0, 0, 3), 0x84);
        due("byte 4", x.at(0, 0, 4), 255);
        due("byte 11", x.at(0, 0, 11), 254);
        due("byte 12", x.at(0, 0, 12), NONE);
        due("byte -1", x.at(0, 0, -1), NONE);
        due("block 1", x.at(0, 1, 0), NONE);
        due("block -1", x.at(0, -1, 0), NONE);
        due("series 1", x.at(1, 0, 0), NONE);
        x.tear(0, 0, 0, 0x81);
        due("torn, as it is now", x.at(0, 0, 0), 0x80);
    }

    private static void tear() {
        promise = 13;
        NumberRiver x = Scenes.with(WHOLE);
        x.put(0, 0x0F, 1);
        due("turned", x.tear(0, 0, 3, 0xFF), 0xF0);
        due("torn", x.block(0, 0, 5), 1);
        due("another byte", x.tear(0, 0, 11, 2), 3);
        due("turned back", x.tear(0, 0, 3, 0xFF), 0x0F);
        due("still torn", x.block(0, 0, 5), 1);
        due("in part", x.tear(0, 0, 11, 6), 5);
        due("still torn", x.block(0, 0, 5), 1);
        due("back", x.tear(0, 0, 11, 4), 1);
        due("as it was made", x.block(0, 0, 5), 0);
        due("no bit", x.tear(0, 0, 0, 0), 0);
        due("not torn by that", x.block(0, 0, 5), 0);
        due("mask -1", x.tear(0, 0, 0, -1), BAD);
        due("mask 256", x.tear(0, 0, 0, 256), BAD);
        due("byte 12", x.tear(0, 0, 12, 256), NONE);
        due("byte -1", x.tear(0, 0, -1, 1), NONE);
        due("block 1", x.tear(0, 1, 0, 1), NONE);
        due("block -1", x.tear(0, -1, 0, 1), NONE);
        due("series 1", x.tear(1, 0, 0, 1), NONE);
        due("refusals turn nothing", x.block(0, 0, 5), 0);
        due("not torn, it takes points", x.put(0, 0x10, 1), 1);
        due("in the same block", x.block(0, 0, 0), 2);
        due("a byte more can be torn", x.tear(0, 0, 13, 1), 1);
    }

    private static void cost() {
        promise = 14;
        NumberRiver x = Scenes.with(WHOLE);
        x.fill(0, 0, 1, 3, 0, 16);
        due("first", x.cost(0, 0, 0), 96);
        due("second", x.cost(0, 0, 1), 10);
        due("third", x.cost(0, 0, 2), 2);
        due("the last", x.cost(0, 0, 15), 2);
        due("point 16", x.cost(0, 0, 16), NONE);
        due("point -1", x.cost(0, 0, -1), NONE);
        due("block 1", x.cost(0, 1, 0), NONE);
        due("block -1", x.cost(0, -1, 0), NONE);
        due("series 1", x.cost(1, 0, 0), NONE);
        x.tear(0, 0, 0, 1);
        due("torn", x.cost(0, 0, 0), STATE);
        due("torn, and no such point", x.cost(0, 0, 16), NONE);
        x.tear(0, 0, 0, 1);
        due("mended", x.cost(0, 0, 0), 96);
    }

    private static void point() {
        promise = 15;
        NumberRiver x = Scenes.with(WHOLE);
        int[] times = {0, 1, 3, 70, 400, 3000, 3001, 5000, 900_000_000, 900_000_001, LAST_TIME};
        long[] values = {-TOP, TOP, 0, -1, 1, 1, 4096, -4096, TOP - 1, 7, 7};
        for (int k = 0; k < times.length; k++) {
            x.put(0, times[k], values[k]);
        }
        for (int k = 0; k < times.length; k++) {
            due("time of " + k, x.point(0, 0, k, 0), times[k]);
            due("value of " + k, x.point(0, 0, k, 1), values[k]);
        }
        due("point 11", x.point(0, 0, 11, 0), NO);
        due("point -1", x.point(0, 0, -1, 0), NO);
        due("what 2", x.point(0, 0, 0, 2), NO);
        due("what -1", x.point(0, 0, 0, -1), NO);
        due("block 1", x.point(0, 1, 0, 0), NO);
        due("block -1", x.point(0, -1, 0, 0), NO);
        due("series 1", x.point(1, 0, 0, 0), NO);
        x.put(0, 1, 8);
        due("a late one is not in it", x.point(0, 0, 1, 1), TOP);
        x.tear(0, 0, 30, 1);
        due("torn", x.point(0, 0, 0, 0), NO);
        x.tear(0, 0, 30, 1);
        due("mended", x.point(0, 0, 10, 0), LAST_TIME);
    }

    private static void late() {
        promise = 16;
        NumberRiver x = Scenes.with(WHOLE);
        due("none yet", x.late(0, 0, 0), NO);
        x.put(0, 100, 0);
        x.put(0, 50, -5);
        x.put(0, 0, -6);
        x.put(0, 100, -7);
        x.put(0, 50, -8);
        due("time of 0", x.late(0, 0, 0), 0);
        due("value of 0", x.late(0, 0, 1), -6);
        due("time of 1", x.late(0, 1, 0), 50);
        due("value of 1", x.late(0, 1, 1), -8);
        due("time of 2", x.late(0, 2, 0), 100);
        due("value of 2", x.late(0, 2, 1), -7);
        due("late 3", x.late(0, 3, 0), NO);
        due("late -1", x.late(0, -1, 0), NO);
        due("what 2", x.late(0, 0, 2), NO);
        due("what -1", x.late(0, 0, -1), NO);
        due("series 1", x.late(1, 0, 0), NO);
        x.merge(0);
        due("merged", x.late(0, 0, 0), NO);
    }

    private static void span() {
        promise = 17;
        NumberRiver x = Scenes.with(WHOLE);
        long[] values = {4, -9, 12, 6};
        for (int k = 0; k < 4; k++) {
            x.put(0, 100 + k, values[k]);
        }
        x.put(0, 300, 5);
        x.put(0, 400, 5);
        due("two", x.thin(0, 400, 100), 2);
        long[] first = {100, 200, 4, 13, -9, 12, 4, 6};
        long[] second = {300, 400, 1, 5, 5, 5, 5, 5};
        for (int what = 0; what < 8; what++) {
            due("of 0, what " + what, x.span(0, 0, what), first[what]);
            due("of 1, what " + what, x.span(0, 1, what), second[what]);
        }
        due("what 8", x.span(0, 0, 8), NO);
        due("what -1", x.span(0, 0, -1), NO);
        due("span 2", x.span(0, 2, 0), NO);
        due("span -1", x.span(0, -1, 0), NO);
        due("series 1", x.span(1, 0, 0), NO);
        x.drop(0, 400);
        due("dropped", x.span(0, 0, 0), NO);
        x.put(0, 500, -3);
        x.thin(0, 600, 200);
        long[] anew = {400, 600, 2, 2, -3, 5, 5, -3};
        for (int what = 0; what < 8; what++) {
            due("made anew, what " + what, x.span(0, 0, what), anew[what]);
        }
    }

    private static void count() {
        promise = 18;
        NumberRiver x = Scenes.counted(WHOLE, 10, 60);
        x.thin(0, 200, 100);
        // Spans 0 .. 99, 100 .. 199; blocks 200 .. 350, 360 .. 510, 520 .. 590.
        due("all", x.count(0, 0, 591), 60);
        due("all but the last", x.count(0, 0, 590), 59);
        due("to the end of times", x.count(0, 0, Integer.MAX_VALUE), 60);
        due("a span cut below", x.count(0, 1, 591), 50);
        due("a span cut above", x.count(0, 100, 199), 0);
        due("one time", x.count(0, 350, 351), 1);
        due("between points", x.count(0, 351, 360), 0);
        x.put(0, 355, 1);
        x.put(0, 350, 1);
        due("a late one more", x.count(0, 351, 360), 1);
        due("a late one in place of another", x.count(0, 200, 351), 16);
        x.tear(0, 0, 0, 1);
        due("of a torn block the late one alone", x.count(0, 200, 351), 1);
        due("b = a", x.count(0, 5, 5), BAD);
        due("b below a", x.count(0, 5, 4), BAD);
        due("a -1", x.count(0, -1, 4), BAD);
        due("series 1", x.count(1, -1, 4), NONE);
        due("series -1", x.count(-1, 0, 4), NONE);
        due("of nothing", Scenes.with(WHOLE).count(0, 0, 1), 0);
    }

    private static void sum() {
        promise = 19;
        NumberRiver x = Scenes.counted(WHOLE, 10, 60);
        x.thin(0, 200, 100);
        due("all", x.sum(0, 0, 600), sumOf(0, 59));
        due("a cut span counts not", x.sum(0, 1, 600), sumOf(10, 59));
        due("a part", x.sum(0, 205, 221), 21 + 22);
        x.put(0, 210, -1000);
        due("the late one of two", x.sum(0, 200, 221), 20 - 1000 + 22);
        due("none", x.sum(0, 1000, 2000), 0);
        due("b = a", x.sum(0, 5, 5), NO);
        due("a -1", x.sum(0, -1, 5), NO);
        due("series 1", x.sum(1, 0, 5), NO);
        x.tear(0, 0, 0, 1);
        due("of a torn block the late one alone", x.sum(0, 200, 360), -1000);
    }

    private static void least() {
        promise = 20;
        NumberRiver x = Scenes.counted(WHOLE, 10, 60);
        x.thin(0, 200, 100);
        due("least of all", x.least(0, 0, 600, false), 0);
        due("greatest of all", x.least(0, 0, 600, true), 59);
        due("least, a span cut", x.least(0, 1, 600, false), 10);
        due("greatest of spans", x.least(0, 0, 200, true), 19);
        due("least of a head", x.least(0, 200, 360, false), 20);
        due("greatest of a head", x.least(0, 200, 360, true), 35);
        due("least of a part", x.least(0, 201, 360, false), 21);
        due("greatest of a part", x.least(0, 200, 350, true), 34);
        x.put(0, 215, -9);
        x.put(0, 350, 3);
        due("a late one is least", x.least(0, 200, 360, false), -9);
        due("one is replaced", x.least(0, 200, 360, true), 34);
        due("of one below 0", x.least(0, 215, 216, true), -9);
        due("of one above 0", x.least(0, 220, 221, false), 22);
        due("none", x.least(0, 211, 215, true), NO);
        due("none", x.least(0, 211, 215, false), NO);
        due("b = a", x.least(0, 5, 5, true), NO);
        due("a -1", x.least(0, -1, 5, false), NO);
        due("series 1", x.least(1, 0, 5, false), NO);
    }

    private static void rise() {
        promise = 21;
        NumberRiver x = Scenes.with(SUM, WHOLE, FLAG, LEVEL);
        long[] values = {5, 9, 9, 2, 8, 0, 1};
        for (int k = 0; k < values.length; k++) {
            x.put(0, 10 * k, values[k]);
        }
        due("all", x.rise(0, 0, 100), 4 + 0 + 2 + 6 + 0 + 1);
        due("from the second on", x.rise(0, 1, 100), 0 + 2 + 6 + 0 + 1);
        due("but the last", x.rise(0, 0, 60), 4 + 0 + 2 + 6 + 0);
        due("of one", x.rise(0, 10, 20), 0);
        due("of none", x.rise(0, 11, 20), 0);
        x.put(0, 35, 20);
        due("a late one among them", x.rise(0, 0, 100), 4 + 0 + 2 + 18 + 8 + 0 + 1);
        x.put(0, 30, 10);
        due("a late one in place", x.rise(0, 0, 100), 4 + 0 + 1 + 10 + 8 + 0 + 1);
        due("kind 0", x.rise(1, 0, 100), NO);
        due("kind 1", x.rise(2, 0, 100), NO);
        due("kind 2", x.rise(3, 0, 100), NO);
        due("b = a", x.rise(0, 5, 5), NO);
        due("a -1", x.rise(0, -1, 5), NO);
        due("series 4", x.rise(4, 0, 5), NO);
        x.merge(0);
        x.thin(0, 20, 20);
        due("without spans", x.rise(0, 0, 100), 1 + 10 + 8 + 0 + 1);
        x.tear(0, 0, 0, 1);
        due("of a torn block", x.rise(0, 0, 100), 0);
    }

    private static void level() {
        promise = 22;
        NumberRiver x = Scenes.with(LEVEL, WHOLE, FLAG, SUM);
        x.put(0, 10, 1);
        x.put(0, 20, -2);
        x.put(0, 30, 1);
        x.put(0, 40, 1);
        due("all", x.level(0, 0, 50, 1), 30);
        due("another level", x.level(0, 0, 50, -2), 10);
        due("no such level", x.level(0, 0, 50, 0), 0);
        due("a level far outside", x.level(0, 0, 50, Long.MAX_VALUE), 0);
        due("within one", x.level(0, 12, 15, 1), 3);
        due("begun before", x.level(0, 15, 25, 1), 5);
        due("ends with the window", x.level(0, 25, 35, 1), 5);
        due("far behind the last", x.level(0, 100, 200, 1), 100);
        due("to the end of times", x.level(0, 0, Integer.MAX_VALUE, 1), 10 + (Integer.MAX_VALUE - 30));
        due("before the first", x.level(0, 0, 10, 1), 0);
        due("one time before the first, one after", x.level(0, 9, 11, 1), 1);
        x.put(0, 25, 1);
        due("a late one among them", x.level(0, 0, 50, 1), 35);
        due("a late one before the window", x.level(0, 26, 29, 1), 3);
        x.put(0, 10, 5);
        due("a late one in place", x.level(0, 0, 50, 1), 25);
        due("kind 0", x.level(1, 0, 100, 0), NO);
        due("kind 1", x.level(2, 0, 100, 0), NO);
        due("kind 3", x.level(3, 0, 100, 0), NO);
        due("b = a", x.level(0, 5, 5, 1), NO);
        due("a -1", x.level(0, -1, 5, 1), NO);
        due("series 4", x.level(4, 0, 5, 1), NO);
        x.tear(0, 0, 0, 1);
        // The late ones 10: 5 and 25: 1 are left.
        due("the late ones of a torn block", x.level(0, 0, 50, 1), 25);
        x.put(0, 45, 3);
        due("up to a point of the next block", x.level(0, 0, 50, 1), 20);
        x.tear(0, 0, 0, 1);
        x.merge(0);
        x.thin(0, 30, 30);
        due("without spans", x.level(0, 0, 50, 1), 15);
    }

    private static void value() {
        promise = 23;
        NumberRiver x = Scenes.counted(WHOLE, 10, 40);
        due("first", x.value(0, 0, 400, false), 0);
        due("last", x.value(0, 0, 400, true), 39);
        due("first of a part", x.value(0, 11, 30, false), 2);
        due("last of a part", x.value(0, 11, 30, true), 2);
        due("none", x.value(0, 11, 20, true), NO);
        x.put(0, 15, -5);
        due("a late one", x.value(0, 11, 20, true), -5);
        x.put(0, 20, -6);
        due("a late one in place", x.value(0, 16, 30, false), -6);
        due("b = a", x.value(0, 5, 5, true), NO);
        due("a -1", x.value(0, -1, 5, true), NO);
        due("series 1", x.value(1, 0, 5, true), NO);
        x.merge(0);
        x.thin(0, 100, 100);
        due("without spans", x.value(0, 0, 400, false), 10);
        due("spans alone", x.value(0, 0, 100, false), NO);
        x.tear(0, 0, 0, 1);
        due("behind a torn block", x.value(0, 0, 400, false), 26);
    }

    private static void group() {
        promise = 24;
        NumberRiver x = Scenes.with(WHOLE, LEVEL, SUM);
        due("none has it", x.group(3, 15, 0, 100, 0), 0);
        due("none has it", x.group(3, 15, 0, 100, 1), 0);
        x.fill(0, 0, 1, 10, 0, 5);
        x.fill(1, 0, 1, -20, 0, 5);
        x.fill(2, 0, 1, 7, 0, 5);
        x.label(0, 3, 15);
        x.label(2, 3, 15);
        x.label(1, 3, 14);
        due("counts", x.group(3, 15, 1, 100, 0), 8);
        due("sums", x.group(3, 15, 1, 100, 1), 4 * 17);
        due("one alone", x.group(3, 14, 0, 100, 1), -100);
        due("key -1", x.group(-1, 15, 0, 100, 0), NO);
        due("key 8", x.group(8, 15, 0, 100, 0), NO);
        due("v -1", x.group(3, -1, 0, 100, 0), NO);
        due("v 16", x.group(3, 16, 0, 100, 0), NO);
        due("what 2", x.group(3, 15, 0, 100, 2), NO);
        due("what -1", x.group(3, 15, 0, 100, -1), NO);
        due("a -1", x.group(3, 15, -1, 100, 0), NO);
        due("b = a", x.group(3, 15, 100, 100, 0), NO);
        x.thin(0, 4, 4);
        due("with spans", x.group(3, 15, 0, 4, 1), 4 * 17);
    }

    private static void scans(NumberRiver x, String of, int scanned, int cut, int torn) {
        due("scan(0) of " + of, x.scan(0), scanned);
        due("scan(1) of " + of, x.scan(1), cut);
        due("scan(2) of " + of, x.scan(2), torn);
    }

    private static void scan() {
        promise = 25;
        NumberRiver x = Scenes.counted(LEVEL, 10, 60);
        scans(x, "nothing", 0, 0, 0);
        due("scan(3)", x.scan(3), NONE);
        due("scan(-1)", x.scan(-1), NONE);
        x.thin(0, 200, 100);
        // Spans 0 .. 99, 100 .. 199; blocks 200 .. 350, 360 .. 510, 520 .. 590.
        x.count(0, 0, 591);
        scans(x, "heads alone", 0, 0, 0);
        x.count(0, 0, 590);
        scans(x, "the last block in part", 8, 0, 0);
        x.sum(0, 201, 591);
        scans(x, "the first block in part", 16, 0, 0);
        x.sum(0, 99, 150);
        scans(x, "two spans cut", 0, 2, 0);
        x.sum(0, 50, 100);
        scans(x, "a span begins where the window ends", 0, 1, 0);
        x.sum(0, 200, 201);
        scans(x, "a span ends where the window begins", 16, 0, 0);
        x.least(0, 100, 199, true);
        scans(x, "a span cut, no value", 0, 1, 0);
        x.least(0, 100, 200, true);
        scans(x, "a span alone", 0, 0, 0);
        x.count(0, 351, 360);
        scans(x, "between blocks", 0, 0, 0);
        x.count(0, 341, 350);
        scans(x, "between points of a block", 16, 0, 0);
        x.value(0, 50, 361, true);
        scans(x, "value", 32, 0, 0);
        x.value(0, 351, 360, true);
        scans(x, "value of none", 0, 0, 0);
        x.level(0, 360, 361, 1);
        scans(x, "level", 32, 0, 0);
        x.level(0, 50, 60, 1);
        scans(x, "level before all", 0, 0, 0);
        x.put(0, 355, 4);
        x.count(0, 200, 511);
        scans(x, "a late one between blocks", 0, 0, 0);
        x.put(0, 360, 4);
        x.count(0, 200, 511);
        scans(x, "a late one at a block's first time", 16, 0, 0);
        x.put(0, 590, 4);
        x.count(0, 520, 591);
        scans(x, "a late one at a block's last time", 8, 0, 0);
        NumberRiver y = Scenes.counted(SUM, 10, 20);
        y.rise(0, 150, 151);
        scans(y, "rise", 16, 0, 0);
        y.series(WHOLE);
        y.fill(1, 0, 10, 0, 1, 20);
        y.thin(1, 40, 40);
        y.label(0, 0, 0);
        y.label(1, 0, 0);
        y.tear(0, 1, 0, 1);
        y.group(0, 0, 10, 180, 0);
        scans(y, "group", 16 + 16, 1, 1);
        y.group(1, 1, 10, 180, 0);
        scans(y, "a group of none", 0, 0, 0);
    }

    private static void scanOfRefused() {
        promise = 25;
        NumberRiver x = Scenes.counted(SUM, 10, 20);
        x.count(0, 0, 11);
        x.count(0, 5, 5);
        x.count(1, 0, 5);
        x.sum(0, 5, 5);
        x.least(1, 0, 5, true);
        x.rise(0, -1, 5);
        x.level(0, 0, 500, 1);
        x.value(0, 7, 7, true);
        x.group(8, 0, 0, 5, 0);
        x.group(0, 0, 0, 5, 2);
        x.merge(0);
        x.point(0, 1, 2, 0);
        scans(x, "the latest that was not refused", 16, 0, 0);
    }

    private static void scanOfTorn() {
        promise = 25;
        NumberRiver x = Scenes.counted(LEVEL, 10, 48);
        x.tear(0, 0, 0, 1);
        x.tear(0, 1, 0, 1);
        x.count(0, 0, 480);
        scans(x, "count", 0, 0, 2);
        x.count(0, 150, 161);
        scans(x, "count at both edges", 0, 0, 2);
        x.count(0, 151, 160);
        scans(x, "count between them", 0, 0, 0);
        x.value(0, 151, 161, true);
        scans(x, "value", 0, 0, 1);
        x.level(0, 310, 321, 1);
        scans(x, "level: a torn one before the window is not told", 16, 0, 1);
        NumberRiver y = Scenes.counted(SUM, 10, 32);
        y.tear(0, 0, 0, 1);
        y.rise(0, 0, 161);
        scans(y, "rise", 16, 0, 1);
    }

    private static void about() {
        promise = 26;
        NumberRiver x = Scenes.with(FLAG, SUM);
        due("how many series", x.about(-1, 0), 2);
        due("series -1, what 1", x.about(-1, 1), NONE);
        due("series -1, what -1", x.about(-1, -1), NONE);
        due("series -2", x.about(-2, 0), NONE);
        due("series 2", x.about(2, 0), NONE);
        due("what 7", x.about(0, 7), NONE);
        due("what -1", x.about(0, -1), NONE);
        long[] empty = {SUM, 0, 0, 0, 0, 0, 0};
        for (int what = 0; what < 7; what++) {
            due("of an empty one, what " + what, x.about(1, what), empty[what]);
        }
        x.fill(1, 0, 1, 5, 0, 40);
        x.thin(1, 10, 5);
        x.put(1, 12, 4);
        x.put(1, 15, 4);
        x.put(1, 15, 3);
        x.tear(1, 0, 0, 1);
        // 30 main ones in two blocks: 96 + 10 + 14 x 2 and 96 + 10 + 12 x 2 bits.
        long[] full = {SUM, 2, 2, 2, 30, 134 + 130, 1};
        for (int what = 0; what < 7; what++) {
            due("what " + what, x.about(1, what), full[what]);
        }
    }

    /** Numbers at the ends of int and long must be answered too, in every call. */
    private static void anyNumbers() {
        promise = 0;
        int[] odd = {Integer.MIN_VALUE, -1, 0, 1, 17, Integer.MAX_VALUE};
        for (int p : odd) {
            for (int q : odd) {
                for (int r : odd) {
                    NumberRiver x = Scenes.counted(SUM, 10, 40);
                    x.put(0, 5, 1);
                    answerAll(x, p, q, r);
                    answerAll(x, 0, p, q);
                    due("series still there after " + p + ", " + q + ", " + r, Math.min(1, x.about(-1, 0)), 1);
                }
            }
        }
    }

    private static void answerAll(NumberRiver x, int p, int q, int r) {
        x.series(p);
        x.label(p, q, r);
        x.match(p, q, r, p, q);
        x.put(p, q, Long.MIN_VALUE);
        x.put(p, q, r);
        x.fill(p, q, r, Long.MAX_VALUE, Long.MIN_VALUE, r);
        x.fill(p, q, 1, r, r, 40);
        x.merge(p);
        x.block(p, q, r);
        x.head(p, q, r);
        x.at(p, q, r);
        x.cost(p, q, r);
        x.point(p, q, r, 1);
        x.point(p, 0, q, r);
        x.late(p, q, r);
        x.span(p, q, r);
        x.tear(p, q, r, 1);
        x.tear(p, 0, q, r);
        x.count(p, q, r);
        x.sum(p, q, r);
        x.least(p, q, r, true);
        x.rise(p, q, r);
        x.level(p, q, r, Long.MIN_VALUE);
        x.value(p, q, r, false);
        x.group(p, q, r, p, q);
        x.scan(p);
        x.about(p, q);
        x.thin(p, q, r);
        x.drop(p, q);
    }
}
