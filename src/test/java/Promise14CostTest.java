/** Promise 14, cost: how many bits a point takes, at each edge of the forms. */
public final class Promise14CostTest extends Edges {
    public static void main(String[] args) {
        promise(14, "cost");
        whichPoint();
        whichBlock();
        whichSeries();
        tornOnes();
        noneBeforeState();
        changesOfStep();
        stepOfTheFirst();
        theFrameStays();
        noFrameAtFirst();
        cheapestAndDearest();
        tellingChangesNothing();
        end();
    }

    private static void whichPoint() {
        sentence("POINT k of a BLOCK. NONE.");
        NumberRiver x = Scenes.counted(WHOLE, 10, 16);
        due("point 0", x.cost(0, 0, 0), 96);
        due("point 15, the last", x.cost(0, 0, 15), 1 + 2 + 4);
        for (int k : new int[] {-1, 16, LOWEST, HIGHEST}) {
            changesNothing("point " + k, Scenes::rich, y -> y.cost(0, 0, k), NONE);
        }
        NumberRiver z = Scenes.counted(WHOLE, 10, 3);
        due("point 2 of 3", z.cost(0, 0, 2), 1 + 2 + 12 + 2);
        due("point 3 of 3", z.cost(0, 0, 3), NONE);
        changesNothing("none such", Scenes::rich, y -> y.cost(0, 1, 15), NONE);
        changesNothing("one that is there", Scenes::rich, y -> y.cost(0, 0, 0), 96);
    }

    private static void whichBlock() {
        sentence("NONE no such BLOCK");
        due("the last", Scenes.counted(WHOLE, 10, 17).cost(0, 1, 0), 96);
        for (int i : new int[] {-1, 2, LOWEST, HIGHEST}) {
            changesNothing("block " + i, Scenes::rich, x -> x.cost(0, i, 0), NONE);
        }
    }

    private static void whichSeries() {
        sentence("NONE no such SERIES");
        due("the last series", Scenes.rich().cost(3, 2, 0), 96);
        noSuchSeries((x, s) -> x.cost(s, 0, 0), NONE);
    }

    private static void tornOnes() {
        sentence("STATE: it is TORN");
        for (int k : new int[] {0, 15}) {
            changesNothing("point " + k, Scenes::rich, x -> x.cost(3, 1, k), STATE);
        }
        due("the one ahead is not torn", Scenes.rich().cost(3, 0, 15), 1 + 2 + 4);
        NumberRiver x = Scenes.rich();
        x.tear(3, 1, 0, 128);
        due("mended", x.cost(3, 1, 0), 96);
    }

    private static void noneBeforeState() {
        sentence("of several the first one told here: NONE, STATE");
        changesNothing("torn, and one behind the last point", Scenes::rich, x -> x.cost(3, 1, 16), NONE);
        changesNothing("torn, and point -1", Scenes::rich, x -> x.cost(3, 1, -1), NONE);
    }

    private static int thirdAfter(int d) {
        NumberRiver x = Scenes.with(WHOLE);
        x.put(0, 0, 0);
        x.put(0, 5000, 0);
        x.put(0, 10_000 + d, 0);
        return x.cost(0, 0, 2);
    }

    private static void changesOfStep() {
        sentence("0: the BIT 0; -63 .. 64: 10 and by 7; -255 .. 256: 110 and by 9; -2047 .. 2048: 1110 and by 12; else 1111 and by 32");
        int[] d = {0, 1, -1, 64, -63, 65, -64, 256, -255, 257, -256, 2048, -2047, 2049, -2048, LAST_TIME - 10_000, -4999};
        int[] bits = {1, 9, 9, 9, 9, 12, 12, 12, 12, 16, 16, 16, 16, 36, 36, 36, 36};
        for (int i = 0; i < d.length; i++) {
            due("D " + d[i], thirdAfter(d[i]), bits[i] + 1);
        }
    }

    private static void stepOfTheFirst() {
        sentence("less that one's own such step (0 of the first)");
        int[] step = {1, 64, 65, 256, 257, 2048, 2049, 1_000_000};
        int[] bits = {9, 9, 12, 12, 16, 16, 36, 36};
        for (int i = 0; i < step.length; i++) {
            NumberRiver x = Scenes.with(WHOLE);
            x.fill(0, 7, step[i], 5, 0, 18);
            due("the second, by " + step[i], x.cost(0, 0, 1), bits[i] + 1);
            due("the third", x.cost(0, 0, 2), 2);
            due("the last of the block", x.cost(0, 0, 15), 2);
            due("the first of the next", x.cost(0, 1, 0), 96);
            due("the second of the next", x.cost(0, 1, 1), bits[i] + 1);
        }
    }

    private static void theFrameStays() {
        sentence("if there is a FRAME, and all 1s of X are within it; else .. which are the FRAME now");
        int[] change = {0x68, 0x40, 0x08, 0x48, 0x00, 0x68, 0x80, 0x80, 0x40, 0x68, 0x04, 0x0C, 0x08, 0x10};
        // A frame told anew costs 2 + 12 and its bits; one that stays 2 and its bits; none 1.
        int[] bits = {18, 6, 6, 6, 1, 6, 15, 3, 15, 18, 15, 16, 4, 15};
        NumberRiver x = Scenes.with(WHOLE);
        long value = 0;
        x.put(0, 0, value);
        for (int k = 0; k < change.length; k++) {
            value ^= change[k];
            x.put(0, k + 1, value);
            due("change " + k, x.cost(0, 0, k + 1), (k == 0 ? 9 : 1) + bits[k]);
            due("value " + k, x.point(0, 0, k + 1, 1), value);
        }
    }

    private static NumberRiver alternating(int n) {
        NumberRiver x = Scenes.with(WHOLE);
        for (int k = 0; k < n; k++) {
            x.put(0, k, k % 2);
        }
        return x;
    }

    private static void noFrameAtFirst() {
        sentence("(of the BLOCK; at first there is none)");
        NumberRiver x = alternating(18);
        due("the first change", x.cost(0, 0, 1), 9 + 15);
        due("the second", x.cost(0, 0, 2), 1 + 3);
        due("the last of the block", x.cost(0, 0, 15), 1 + 3);
        due("the first of a new block", x.cost(0, 1, 1), 9 + 15);
        NumberRiver y = alternating(20);
        y.thin(0, 1, 1);
        due("thinned: the block begins anew", y.cost(0, 0, 1), 9 + 15);
        due("what was a block's first is told by the frame", y.cost(0, 0, 15), 1 + 3);
        NumberRiver z = alternating(20);
        z.put(0, 0, 1);
        z.merge(0);
        due("merged: no change, no frame", z.cost(0, 0, 1), 9 + 1);
        due("merged: the first change", z.cost(0, 0, 2), 1 + 15);
    }

    private static void cheapestAndDearest() {
        sentence("How many BITS POINT k of a BLOCK takes");
        NumberRiver x = Scenes.with(WHOLE);
        x.put(0, 0, 0);
        x.put(0, 1, 0);
        x.put(0, 2, 0);
        due("the cheapest", x.cost(0, 0, 2), 2);
        x.put(0, 1_000_000, -1);
        due("the dearest", x.cost(0, 0, 3), 36 + 2 + 12 + 64);
        x.put(0, 1_000_001, 0);
        due("the dearest by the frame", x.cost(0, 0, 4), 36 + 2 + 64);
        int sum = 0;
        for (int k = 0; k < 5; k++) {
            sum += x.cost(0, 0, k);
        }
        due("all together", x.block(0, 0, 6), sum);
    }

    private static void tellingChangesNothing() {
        sentence("Nothing is promised beyond the answers and state changes described above");
        changesNothing("the first point", Scenes::rich, x -> x.cost(3, 0, 0), 96);
        changesNothing("a point that has the step and the value of the one before", Scenes::rich, x -> x.cost(2, 0, 15), 2);
    }
}
