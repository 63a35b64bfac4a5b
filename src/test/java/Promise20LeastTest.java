/** Promise 20, least: the least and the greatest value, or that there is none. */
public final class Promise20LeastTest extends Edges {
    public static void main(String[] args) {
        promise(20, "least");
        thereIsNone();
        windowEdges();
        onePoint();
        spans();
        blocks();
        latePoints();
        tornBlocks();
        refusals();
        askingLeavesNothing();
        end();
    }

    private static void dueBoth(String what, NumberRiver x, int a, int b, long least, long most) {
        due("least, " + what, x.least(0, a, b, false), least);
        due("most, " + what, x.least(0, a, b, true), most);
    }

    private static void thereIsNone() {
        sentence("NO: there is none, too.");
        dueBoth("of an empty series", Scenes.with(WHOLE), 0, HIGHEST, NO, NO);
        NumberRiver x = Scenes.windows(WHOLE);
        dueBoth("between two points", x, 201, 210, NO, NO);
        dueScans("between two points", x, 16, 0, 0);
        dueBoth("between two blocks", x, 351, 360, NO, NO);
        dueScans("between two blocks", x, 0, 0, 0);
        dueBoth("behind all", x, 591, HIGHEST, NO, NO);
        dueBoth("a cut span alone", x, 0, 99, NO, NO);
        dueScans("a cut span alone", x, 0, 1, 0);
        NumberRiver y = Scenes.counted(WHOLE, 10, 5);
        y.tear(0, 0, 0, 1);
        dueBoth("all torn", y, 0, HIGHEST, NO, NO);
        dueScans("all torn", y, 0, 0, 1);
    }

    private static void windowEdges() {
        sentence("a WINDOW a .. b - 1");
        NumberRiver x = Scenes.counted(WHOLE, 10, 5);
        dueBoth("a and b - 1 at points", x, 10, 31, 1, 3);
        dueBoth("a one behind", x, 11, 31, 2, 3);
        dueBoth("b at a point", x, 10, 30, 1, 2);
    }

    private static void onePoint() {
        sentence("The least (most false) or greatest VALUE; VALUES -10^12 .. 10^12");
        for (long v : new long[] {-TOP, -1, 0, 1, TOP}) {
            NumberRiver x = Scenes.with(WHOLE);
            x.put(0, 5, v);
            dueBoth("by a head, " + v, x, 5, 6, v, v);
            x.put(0, 5, v);
            dueBoth("by a late one, " + v, x, 5, 6, v, v);
            x.merge(0);
            x.thin(0, 6, 6);
            dueBoth("by a span, " + v, x, 0, 6, v, v);
        }
    }

    private static void spans() {
        sentence("A SPAN with BEGIN not below a and END not above b is IN it");
        NumberRiver x = Scenes.windows(WHOLE);
        dueBoth("both", x, 0, 200, 0, 19);
        dueBoth("the first cut", x, 1, 200, 10, 19);
        dueBoth("the second cut", x, 0, 199, 0, 9);
        dueBoth("all", x, 0, 591, 0, 59);
    }

    private static void blocks() {
        sentence("by the HEADS of BLOCKS, and by unpacking all other BLOCKS");
        NumberRiver x = Scenes.windows(WHOLE);
        dueBoth("a head", x, 200, 351, 20, 35);
        dueScans("a head", x, 0, 0, 0);
        dueBoth("but its first", x, 201, 351, 21, 35);
        dueScans("but its first", x, 16, 0, 0);
        dueBoth("but its last", x, 200, 350, 20, 34);
        dueScans("but its last", x, 16, 0, 0);
        dueBoth("its last and the next one's first", x, 350, 361, 35, 36);
    }

    private static void latePoints() {
        sentence("of two with one TIME the LATE one alone");
        NumberRiver x = Scenes.windows(WHOLE);
        x.put(0, 200, 25);
        x.put(0, 350, 26);
        dueBoth("in place of the least and the greatest", x, 200, 351, 21, 34);
        x.put(0, 355, -TOP);
        dueBoth("one behind the block", x, 200, 356, -TOP, 34);
        dueBoth("it is at b", x, 200, 355, 21, 34);
    }

    private static void tornBlocks() {
        sentence("those of BLOCKS that are not TORN");
        NumberRiver x = Scenes.windows(WHOLE);
        x.tear(0, 0, 0, 1);
        dueBoth("the others", x, 200, 591, 36, 59);
        x.put(0, 210, 99);
        dueBoth("and a late one", x, 200, 591, 36, 99);
    }

    private static void refusals() {
        sentence("NO: no such SERIES, a, b as of count()");
        due("a 0, b 1", Scenes.rich().least(3, 0, 1, true), 0);
        noSuchWindow((x, a, b) -> x.least(0, a, b, false), NO);
        noSuchWindow((x, a, b) -> x.least(0, a, b, true), NO);
        noSuchSeries((x, s) -> x.least(s, 0, 500, true), NO);
    }

    private static void askingLeavesNothing() {
        sentence("Of the latest question (no question changes what another one answers)");
        leavesOnlyItsScan("least", x -> x.least(0, 60, 257, false));
        leavesOnlyItsScan("most", x -> x.least(3, 0, 151, true));
        leavesOnlyItsScan("the least of nothing", x -> x.least(1, 50, 60, false));
    }
}
