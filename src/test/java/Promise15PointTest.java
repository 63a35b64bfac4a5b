/** Promise 15, point: points told by their bytes, at the edges of times, values and forms. */
public final class Promise15PointTest extends Edges {
    public static void main(String[] args) {
        promise(15, "point");
        whats();
        whichPoint();
        whichBlock();
        whichSeries();
        tornOnes();
        extremes();
        changesOfStep();
        changesOfValue();
        dearestBlock();
        mainPointsAlone();
        tellingChangesNothing();
        end();
    }

    private static void whats() {
        sentence("what 0 its TIME, 1 its VALUE. NO: none such");
        NumberRiver x = Scenes.counted(WHOLE, 10, 16);
        due("what 0", x.point(0, 0, 3, 0), 30);
        due("what 1", x.point(0, 0, 3, 1), 3);
        for (int what : new int[] {-1, 2, LOWEST, HIGHEST}) {
            changesNothing("what " + what, Scenes::rich, y -> y.point(0, 0, 0, what), NO);
        }
    }

    private static void whichPoint() {
        sentence("POINT k of a BLOCK. NO: none such");
        NumberRiver x = Scenes.counted(WHOLE, 10, 16);
        due("point 0", x.point(0, 0, 0, 0), 0);
        due("point 15, the last", x.point(0, 0, 15, 0), 150);
        for (int k : new int[] {-1, 16, LOWEST, HIGHEST}) {
            changesNothing("point " + k, Scenes::rich, y -> y.point(0, 0, k, 0), NO);
        }
        NumberRiver z = Scenes.counted(WHOLE, 10, 3);
        due("point 2 of 3", z.point(0, 0, 2, 1), 2);
        due("point 3 of 3", z.point(0, 0, 3, 1), NO);
        changesNothing("none such", Scenes::rich, y -> y.point(0, 1, 15, 0), NO);
        changesNothing("one that is there", Scenes::rich, y -> y.point(0, 1, 14, 0), 400);
    }

    private static void whichBlock() {
        sentence("NO: no such BLOCK");
        due("the last", Scenes.counted(WHOLE, 10, 17).point(0, 1, 0, 0), 160);
        for (int i : new int[] {-1, 2, LOWEST, HIGHEST}) {
            changesNothing("block " + i, Scenes::rich, x -> x.point(0, i, 0, 0), NO);
        }
    }

    private static void whichSeries() {
        sentence("NO: no such SERIES");
        due("the last series", Scenes.rich().point(3, 2, 7, 0), 390);
        noSuchSeries((x, s) -> x.point(s, 0, 0, 0), NO);
    }

    private static void tornOnes() {
        sentence("NO: or it is TORN");
        for (int k : new int[] {0, 15, 16}) {
            changesNothing("point " + k, Scenes::rich, x -> x.point(3, 1, k, 1), NO);
        }
        NumberRiver x = Scenes.rich();
        due("the last of the one ahead", x.point(3, 0, 15, 0), 150);
        due("the first of the one behind", x.point(3, 2, 0, 0), 320);
        x.tear(3, 1, 0, 128);
        due("mended, the first", x.point(3, 1, 0, 0), 160);
        due("mended, the last", x.point(3, 1, 15, 1), 4 * 31);
    }

    private static void extremes() {
        sentence("a TIME, 0 .. 10^9, and a VALUE, -10^12 .. 10^12");
        NumberRiver x = Scenes.with(WHOLE);
        int[] times = {0, 1, 999_999_998, 999_999_999, LAST_TIME};
        long[] values = {-TOP, TOP, -TOP, 0, -1};
        for (int k = 0; k < 5; k++) {
            x.put(0, times[k], values[k]);
        }
        for (int k = 0; k < 5; k++) {
            due("time " + k, x.point(0, 0, k, 0), times[k]);
            due("value " + k, x.point(0, 0, k, 1), values[k]);
        }
    }

    private static void changesOfStep() {
        sentence("by its BYTES: D");
        for (int d : new int[] {0, 1, -1, 64, -63, 65, -64, 256, -255, 257, -256, 2048, -2047, 2049, -2048}) {
            NumberRiver x = Scenes.with(WHOLE);
            x.put(0, 3, 1);
            x.put(0, 5003, 2);
            x.put(0, 10_003 + d, 3);
            x.put(0, 15_003 + 2 * d, 4);
            x.put(0, 20_003 + 2 * d, 5);
            due("the third, D " + d, x.point(0, 0, 2, 0), 10_003 + d);
            due("the same step again", x.point(0, 0, 3, 0), 15_003 + 2 * d);
            due("back to the first step", x.point(0, 0, 4, 0), 20_003 + 2 * d);
            due("its value", x.point(0, 0, 4, 1), 5);
        }
    }

    private static void changesOfValue() {
        sentence("by its BYTES: X");
        NumberRiver x = Scenes.with(WHOLE);
        long[] values = {0, 1, 0, -1, -1, 0, 1L << 39, 0, -(1L << 39), (1L << 39) - 1, 6, 4, 2, 10, -10, TOP};
        for (int k = 0; k < 16; k++) {
            x.put(0, k, values[k]);
        }
        for (int k = 0; k < 16; k++) {
            due("value " + k, x.point(0, 0, k, 1), values[k]);
            due("time " + k, x.point(0, 0, k, 0), k);
        }
    }

    /** Steps that change by far each time; frames of 53 bits and more, so long as they can grow. */
    private static void dearestBlock() {
        sentence("16 POINTS, the dearest that there are");
        NumberRiver x = Scenes.with(WHOLE);
        int[] times = new int[16];
        long[] values = new long[16];
        for (int k = 1; k < 16; k++) {
            times[k] = times[k - 1] + (k % 2 == 0 ? 1 : 60_000_000);
            values[k] = values[k - 1] ^ -(1L << Math.max(0, 12 - k));
        }
        for (int k = 0; k < 16; k++) {
            due("put " + k, x.put(0, times[k], values[k]), 1);
        }
        // Frames of 53 .. 64 bits told anew, three times the last of them.
        int bits = 96 + 15 * 36 + (67 + 78) * 6 + 3 * 66;
        due("bits", x.block(0, 0, 6), bits);
        due("the last byte", x.at(0, 0, (bits + 7) / 8 - 1) < 0 ? 1 : 0, 0);
        due("one behind the last byte", x.at(0, 0, (bits + 7) / 8), NONE);
        for (int k = 0; k < 16; k++) {
            due("time " + k, x.point(0, 0, k, 0), times[k]);
            due("value " + k, x.point(0, 0, k, 1), values[k]);
        }
    }

    private static void mainPointsAlone() {
        sentence("POINT k of a BLOCK");
        NumberRiver x = Scenes.counted(WHOLE, 10, 3);
        x.put(0, 10, 50);
        x.put(0, 15, 60);
        due("a late one of its time is not it", x.point(0, 0, 1, 1), 1);
        due("nor one between", x.point(0, 0, 2, 0), 20);
        due("still three", x.point(0, 0, 3, 0), NO);
    }

    private static void tellingChangesNothing() {
        sentence("Nothing is promised beyond the answers and state changes described above");
        changesNothing("a time", Scenes::rich, x -> x.point(3, 2, 7, 0), 390);
        changesNothing("a value, beside a late point of its time", Scenes::rich, x -> x.point(2, 0, 10, 1), 3);
    }
}
