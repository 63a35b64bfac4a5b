/** Promise 19, sum: over spans, heads, unpacked and late points; 0 without any. */
public final class Promise19SumTest extends Edges {
    public static void main(String[] args) {
        promise(19, "sum");
        withoutAny();
        windowEdges();
        spans();
        blocks();
        latePoints();
        tornBlocks();
        greatSums();
        refusals();
        askingLeavesNothing();
        end();
    }

    private static void withoutAny() {
        sentence("Their sum (0 without any)");
        due("of an empty series", Scenes.with(WHOLE).sum(0, 0, HIGHEST), 0);
        due("between two points", Scenes.counted(WHOLE, 10, 5).sum(0, 11, 20), 0);
        due("behind all", Scenes.counted(WHOLE, 10, 5).sum(0, 41, HIGHEST), 0);
        NumberRiver x = Scenes.counted(WHOLE, 10, 5);
        x.tear(0, 0, 0, 1);
        due("all torn", x.sum(0, 0, HIGHEST), 0);
        NumberRiver y = Scenes.windows(WHOLE);
        due("a cut span alone", y.sum(0, 0, 99), 0);
        dueScans("a cut span alone", y, 0, 1, 0);
    }

    private static void windowEdges() {
        sentence("a WINDOW a .. b - 1");
        NumberRiver x = Scenes.counted(WHOLE, 10, 5);
        due("a at a point", x.sum(0, 20, 41), 2 + 3 + 4);
        due("a one behind it", x.sum(0, 21, 41), 3 + 4);
        due("b at a point", x.sum(0, 0, 30), 1 + 2);
        due("b one behind it", x.sum(0, 0, 31), 1 + 2 + 3);
    }

    private static long sumOf(int from, int to) {
        return (long) (from + to) * (to - from + 1) / 2;
    }

    private static void spans() {
        sentence("A SPAN with BEGIN not below a and END not above b is IN it");
        NumberRiver x = Scenes.windows(WHOLE);
        due("both", x.sum(0, 0, 200), sumOf(0, 19));
        due("the first cut", x.sum(0, 1, 200), sumOf(10, 19));
        due("the second cut", x.sum(0, 0, 199), sumOf(0, 9));
        due("all", x.sum(0, 0, 591), sumOf(0, 59));
    }

    private static void blocks() {
        sentence("by the HEADS of BLOCKS, and by unpacking all other BLOCKS");
        NumberRiver x = Scenes.windows(WHOLE);
        due("a head", x.sum(0, 200, 351), sumOf(20, 35));
        dueScans("a head", x, 0, 0, 0);
        due("but its first", x.sum(0, 201, 351), sumOf(21, 35));
        dueScans("but its first", x, 16, 0, 0);
        due("but its last", x.sum(0, 200, 350), sumOf(20, 34));
        due("its last and the next one's first", x.sum(0, 350, 361), 35 + 36);
        dueScans("two unpacked", x, 32, 0, 0);
    }

    private static void latePoints() {
        sentence("of two with one TIME the LATE one alone");
        NumberRiver x = Scenes.windows(WHOLE);
        x.put(0, 350, 1000);
        x.put(0, 355, 5000);
        due("in place", x.sum(0, 350, 351), 1000);
        due("with the rest of the block", x.sum(0, 200, 351), sumOf(20, 34) + 1000);
        due("with one behind it", x.sum(0, 200, 356), sumOf(20, 34) + 6000);
        due("one behind it is at b", x.sum(0, 200, 355), sumOf(20, 34) + 1000);
    }

    private static void tornBlocks() {
        sentence("those of BLOCKS that are not TORN");
        NumberRiver x = Scenes.windows(WHOLE);
        x.put(0, 350, 1000);
        x.tear(0, 0, 0, 1);
        due("the late one and the others", x.sum(0, 200, 591), 1000 + sumOf(36, 59));
        dueScans("one torn", x, 0, 0, 1);
    }

    private static void greatSums() {
        sentence("VALUES -10^12 .. 10^12; 300 MAIN POINTS");
        for (long v : new long[] {TOP, -TOP}) {
            NumberRiver x = Scenes.with(WHOLE);
            for (int done = 0; done < 300; done += 40) {
                x.fill(0, done, 1, v, 0, Math.min(40, 300 - done));
            }
            due("300 of " + v, x.sum(0, 0, 300), 300 * v);
            due("299 of " + v, x.sum(0, 1, 300), 299 * v);
            due("thinned", x.thin(0, 300, 5), 60);
            due("60 spans of " + v, x.sum(0, 0, 300), 300 * v);
            due("59 spans of " + v, x.sum(0, 1, 300), 295 * v);
        }
    }

    private static void refusals() {
        sentence("NO: no such SERIES, a, b as of count()");
        due("a 0, b 1", Scenes.rich().sum(3, 0, 1), 0);
        noSuchWindow((x, a, b) -> x.sum(0, a, b), NO);
        noSuchSeries((x, s) -> x.sum(s, 0, 5), NO);
    }

    private static void askingLeavesNothing() {
        sentence("Of the latest question (no question changes what another one answers)");
        leavesOnlyItsScan("sum by heads", x -> x.sum(3, 0, 151));
        leavesOnlyItsScan("sum by points", x -> x.sum(0, 60, 257));
    }
}
