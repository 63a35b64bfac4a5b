/** Rivers that several tests begin with. */
final class Scenes {
    private Scenes() {
    }

    static NumberRiver with(int... kinds) {
        NumberRiver x = new NumberRiver();
        for (int kind : kinds) {
            x.series(kind);
        }
        return x;
    }

    /** One series of n points: times 0, step, 2 step, ..; values 0, 1, 2, .. */
    static NumberRiver counted(int kind, int step, int n) {
        NumberRiver x = with(kind);
        for (int done = 0; done < n; done += 40) {
            x.fill(0, done * step, step, done, 1, Math.min(40, n - done));
        }
        return x;
    }

    /**
     * Four series, one of each kind, with all that a river can hold. 0 WHOLE: spans 0 .. 49 and
     * 50 .. 99, blocks 100 .. 250 and 260 .. 400, late 100 and 255. 1 FLAG: times 0 and 1.
     * 2 LEVEL: blocks 0 .. 75 and 80 .. 100, late 50. 3 SUM: blocks 0 .. 150, 160 .. 310 (torn)
     * and 320 .. 390. Label 0 of key 0: 0 and 3. Scanned 32, a span cut, a torn block told.
     */
    static NumberRiver rich() {
        NumberRiver x = with(0, 1, 2, 3);
        x.label(0, 0, 0);
        x.label(3, 0, 0);
        x.label(0, 7, 15);
        x.label(1, 3, 4);
        x.fill(0, 10, 10, 5, 3, 40);
        x.thin(0, 100, 50);
        x.put(0, 255, 7);
        x.put(0, 100, 8);
        x.fill(1, 0, 1, 0, 1, 2);
        x.fill(2, 0, 5, 3, 0, 20);
        x.put(2, 100, 4);
        x.put(2, 50, -3);
        x.fill(3, 0, 10, 0, 4, 40);
        x.tear(3, 1, 0, 128);
        askLast(x);
        return x;
    }

    /** The question that the rich river was asked last. */
    static void askLast(NumberRiver x) {
        x.group(0, 0, 10, 205, 1);
    }

    /** Spans 0 .. 99 and 100 .. 199, blocks 200 .. 350, 360 .. 510 and 520 .. 590; values 0 .. 59. */
    static NumberRiver windows(int kind) {
        NumberRiver x = counted(kind, 10, 60);
        x.thin(0, 200, 100);
        return x;
    }

    /** 300 main points: times 0, 2, .. 598, values 0, 1, .. 299. */
    static NumberRiver fullOfMain() {
        return counted(0, 2, 300);
    }

    /** Main times 0, 2, .. 198; late times 1, 3, .. 79, values -1, -3, .. */
    static NumberRiver fullOfLate() {
        NumberRiver x = counted(0, 2, 100);
        for (int time = 79; time > 0; time -= 2) {
            x.put(0, time, -time);
        }
        return x;
    }

    /** Spans 0, 1, .. 59, each of one point; main times 60 .. 99. */
    static NumberRiver fullOfSpans() {
        NumberRiver x = counted(0, 1, 100);
        x.thin(0, 60, 1);
        return x;
    }

    /** 20 points, each in a block of its own: each block was torn as the next point came. */
    static NumberRiver manyBlocks() {
        NumberRiver x = with(0);
        for (int k = 0; k < 20; k++) {
            x.put(0, 10 * k, k);
            x.tear(0, k, 0, 1);
        }
        for (int k = 0; k < 20; k++) {
            x.tear(0, k, 0, 1);
        }
        return x;
    }
}
