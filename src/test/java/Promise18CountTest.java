/** Promise 18, count: windows, spans in them or cut, blocks by heads or unpacked, late points. */
public final class Promise18CountTest extends Edges {
    public static void main(String[] args) {
        promise(18, "count");
        windows();
        farWindows();
        spansIn();
        spansCut();
        spansBesideTheWindow();
        wholeBlocks();
        blocksAtTheEdge();
        aBlockOfOnePoint();
        latePointsBesideABlock();
        latePointsInABlock();
        latePointsAtTheEdge();
        latePointsInPlace();
        tornBlocks();
        noPoint();
        whichSeries();
        noneBeforeBad();
        askingLeavesNothing();
        end();
    }

    /** Of a river of windows(): how many, scanned, cut; no block is torn. */
    private static void dueCount(NumberRiver x, int a, int b, int want, int scanned, int cut) {
        String window = a + " .. " + (b - 1);
        due(window, x.count(0, a, b), want);
        dueScans(window, x, scanned, cut, 0);
    }

    private static void windows() {
        sentence("a WINDOW a .. b - 1; BAD: a below 0, b not above a");
        NumberRiver x = Scenes.counted(WHOLE, 1, 10);
        due("a 0, b 1", x.count(0, 0, 1), 1);
        due("b is not in it", x.count(0, 0, 9), 9);
        due("b - 1 is in it", x.count(0, 0, 10), 10);
        due("a is in it", x.count(0, 9, 10), 1);
        noSuchWindow((y, a, b) -> y.count(0, a, b), BAD);
    }

    private static void farWindows() {
        sentence("a WINDOW a .. b - 1; a TIME, 0 .. 10^9");
        NumberRiver x = Scenes.with(WHOLE);
        x.put(0, 0, 1);
        x.put(0, LAST_TIME, 1);
        due("all", x.count(0, 0, HIGHEST), 2);
        due("up to the last time", x.count(0, 0, LAST_TIME + 1), 2);
        due("but the last time", x.count(0, 0, LAST_TIME), 1);
        due("the last time alone", x.count(0, LAST_TIME, LAST_TIME + 1), 1);
        due("behind all", x.count(0, LAST_TIME + 1, HIGHEST), 0);
        due("the last window", x.count(0, HIGHEST - 1, HIGHEST), 0);
    }

    private static void spansIn() {
        sentence("A SPAN with BEGIN not below a and END not above b is IN it");
        NumberRiver x = Scenes.windows(WHOLE);
        dueCount(x, 0, 100, 10, 0, 0);
        dueCount(x, 100, 200, 10, 0, 0);
        dueCount(x, 0, 200, 20, 0, 0);
    }

    private static void spansCut() {
        sentence("one that is not, but has some TIME of it, is CUT: it counts in no answer, and is told");
        NumberRiver x = Scenes.windows(WHOLE);
        dueCount(x, 1, 100, 0, 0, 1);
        dueCount(x, 0, 99, 0, 0, 1);
        dueCount(x, 0, 101, 10, 0, 1);
        dueCount(x, 99, 200, 10, 0, 1);
        dueCount(x, 99, 101, 0, 0, 2);
        dueCount(x, 0, 1, 0, 0, 1);
        dueCount(x, 199, 200, 0, 0, 1);
        dueCount(x, 150, 151, 0, 0, 1);
    }

    private static void spansBesideTheWindow() {
        sentence("has some TIME of it");
        NumberRiver x = Scenes.windows(WHOLE);
        dueCount(x, 200, 201, 1, 16, 0);
        dueCount(x, 199, 201, 1, 16, 1);
        NumberRiver y = Scenes.with(WHOLE);
        y.put(0, 100, 1);
        y.put(0, 200, 1);
        due("a span 100 .. 199", y.thin(0, 200, 100), 1);
        dueCount(y, 0, 100, 0, 0, 0);
        dueCount(y, 0, 101, 0, 0, 1);
        dueCount(y, 100, 200, 1, 0, 0);
        dueCount(y, 0, 201, 2, 0, 0);
    }

    private static void wholeBlocks() {
        sentence("by the HEADS of BLOCKS of which all is in the WINDOW (first and last TIME)");
        NumberRiver x = Scenes.windows(WHOLE);
        dueCount(x, 200, 351, 16, 0, 0);
        dueCount(x, 201, 351, 15, 16, 0);
        dueCount(x, 200, 350, 15, 16, 0);
        dueCount(x, 200, 511, 32, 0, 0);
        dueCount(x, 200, 510, 31, 16, 0);
        dueCount(x, 0, 591, 60, 0, 0);
        dueCount(x, 0, 590, 59, 8, 0);
    }

    private static void blocksAtTheEdge() {
        sentence("and by unpacking all other BLOCKS of which some TIME, first to last, is in the WINDOW");
        NumberRiver x = Scenes.windows(WHOLE);
        dueCount(x, 350, 360, 1, 16, 0);
        dueCount(x, 351, 360, 0, 0, 0);
        dueCount(x, 351, 361, 1, 16, 0);
        dueCount(x, 350, 361, 2, 32, 0);
        dueCount(x, 341, 350, 0, 16, 0);
        dueCount(x, 201, 202, 0, 16, 0);
        dueCount(x, 590, 591, 1, 8, 0);
        dueCount(x, 591, 592, 0, 0, 0);
        dueCount(x, 250, 550, 30, 16 + 8, 0);
    }

    private static void aBlockOfOnePoint() {
        sentence("BLOCKS of which all is in the WINDOW (first and last TIME)");
        NumberRiver x = Scenes.with(WHOLE);
        x.put(0, 50, 1);
        dueCount(x, 50, 51, 1, 0, 0);
        dueCount(x, 49, 50, 0, 0, 0);
        dueCount(x, 51, 52, 0, 0, 0);
        x.put(0, 50, 2);
        dueCount(x, 50, 51, 1, 1, 0);
    }

    private static NumberRiver withLate(int... times) {
        NumberRiver x = Scenes.windows(WHOLE);
        for (int time : times) {
            due("late " + time, x.put(0, time, -1), 2);
        }
        return x;
    }

    private static void latePointsBesideABlock() {
        sentence("and have no LATE POINT of a TIME from their first to their last one");
        dueCount(withLate(351), 200, 511, 33, 0, 0);
        dueCount(withLate(359), 200, 511, 33, 0, 0);
        dueCount(withLate(351, 359), 200, 511, 34, 0, 0);
        dueCount(withLate(511), 200, 511, 32, 0, 0);
    }

    private static void latePointsInABlock() {
        sentence("of a TIME from their first to their last one");
        dueCount(withLate(360), 200, 511, 32, 16, 0);
        dueCount(withLate(510), 200, 511, 32, 16, 0);
        dueCount(withLate(361), 200, 511, 33, 16, 0);
        dueCount(withLate(509), 200, 511, 33, 16, 0);
        dueCount(withLate(350), 200, 511, 32, 16, 0);
        dueCount(withLate(350, 360), 200, 511, 32, 32, 0);
        dueCount(withLate(350), 360, 511, 16, 0, 0);
    }

    private static void latePointsAtTheEdge() {
        sentence("Then THE POINTS with TIMES in the WINDOW.");
        NumberRiver x = withLate(355);
        dueCount(x, 355, 356, 1, 0, 0);
        dueCount(x, 354, 355, 0, 0, 0);
        dueCount(x, 356, 357, 0, 0, 0);
        dueCount(x, 351, 355, 0, 0, 0);
        dueCount(x, 351, 356, 1, 0, 0);
    }

    private static void latePointsInPlace() {
        sentence("but of two with one TIME the LATE one alone");
        dueCount(withLate(200), 200, 201, 1, 16, 0);
        dueCount(withLate(200, 350), 200, 351, 16, 16, 0);
        dueCount(withLate(200, 201), 200, 351, 17, 16, 0);
    }

    private static void tornBlocks() {
        sentence("THE POINTS of a SERIES are its LATE ones and those of BLOCKS that are not TORN");
        NumberRiver x = withLate(350, 355);
        x.tear(0, 0, 0, 1);
        due("its late ones alone", x.count(0, 200, 360), 2);
        dueScans("torn", x, 0, 0, 1);
        due("the late one of its last time", x.count(0, 350, 351), 1);
        due("the others", x.count(0, 200, 591), 26);
        dueScans("the others by heads", x, 0, 0, 1);
        due("the next in part", x.count(0, 200, 400), 6);
        dueScans("the next in part", x, 16, 0, 1);
        x.tear(0, 0, 0, 1);
        due("mended", x.count(0, 200, 360), 17);
        dueScans("mended", x, 16, 0, 0);
    }

    private static void noPoint() {
        sentence("How many POINTS a WINDOW has");
        due("of an empty series", Scenes.with(WHOLE).count(0, 0, HIGHEST), 0);
        due("ahead of all", Scenes.rich().count(0, 0, 1), 0);
        due("behind all", Scenes.rich().count(0, 401, HIGHEST), 0);
    }

    private static void whichSeries() {
        sentence("NONE no such SERIES");
        due("the last series", Scenes.rich().count(3, 0, 1), 1);
        noSuchSeries((x, s) -> x.count(s, 0, 1), NONE);
    }

    private static void noneBeforeBad() {
        sentence("of several the first one told here: NONE, BAD");
        changesNothing("no series, a -1", Scenes::rich, x -> x.count(4, -1, 5), NONE);
        changesNothing("no series, b = a", Scenes::rich, x -> x.count(-1, 5, 5), NONE);
    }

    private static void askingLeavesNothing() {
        sentence("Of the latest question (no question changes what another one answers)");
        leavesOnlyItsScan("count by heads", x -> x.count(3, 0, 151));
        leavesOnlyItsScan("count by points", x -> x.count(0, 60, 257));
        leavesOnlyItsScan("count of nothing", x -> x.count(1, 50, 60));
    }
}
