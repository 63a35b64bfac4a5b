/** Promise 23, value: the first and the last value in a window, or that there is none. */
public final class Promise23ValueTest extends Edges {
    public static void main(String[] args) {
        promise(23, "value");
        thereIsNone();
        windowEdges();
        whichBlocks();
        latePoints();
        tornBlocks();
        noSpans();
        extremes();
        refusals();
        askingLeavesNothing();
        end();
    }

    private static void dueBoth(String what, NumberRiver x, int a, int b, long first, long last) {
        due("first, " + what, x.value(0, a, b, false), first);
        due("last, " + what, x.value(0, a, b, true), last);
    }

    private static void thereIsNone() {
        sentence("NO: there is none, too.");
        dueBoth("of an empty series", Scenes.with(WHOLE), 0, HIGHEST, NO, NO);
        NumberRiver x = Scenes.windows(WHOLE);
        dueBoth("between two points", x, 201, 210, NO, NO);
        dueScans("between two points", x, 16, 0, 0);
        dueBoth("between two blocks", x, 351, 360, NO, NO);
        dueScans("between two blocks", x, 0, 0, 0);
        dueBoth("behind all", x, 591, HIGHEST, NO, NO);
    }

    private static void windowEdges() {
        sentence("THE POINTS in the WINDOW (a .. b - 1)");
        NumberRiver x = Scenes.counted(WHOLE, 10, 5);
        dueBoth("a and b - 1 at points", x, 10, 31, 1, 3);
        dueBoth("a one behind", x, 11, 31, 2, 3);
        dueBoth("b at a point", x, 10, 30, 1, 2);
        dueBoth("one alone", x, 20, 21, 2, 2);
    }

    private static void whichBlocks() {
        sentence("rise and value unpack all BLOCKS of which some TIME is");
        NumberRiver x = Scenes.counted(WHOLE, 10, 40);
        dueBoth("all of one", x, 0, 151, 0, 15);
        dueScans("all of one is unpacked, too", x, 16, 0, 0);
        dueBoth("the last of one", x, 150, 160, 15, 15);
        dueScans("the last of one", x, 16, 0, 0);
        dueBoth("the first of the next", x, 151, 161, 16, 16);
        dueScans("the first of the next", x, 16, 0, 0);
        dueBoth("both", x, 150, 161, 15, 16);
        dueScans("both", x, 32, 0, 0);
        dueBoth("all", x, 0, 391, 0, 39);
        dueScans("all", x, 40, 0, 0);
    }

    private static void latePoints() {
        sentence("THE POINTS: its LATE ones; of two with one TIME the LATE one alone");
        NumberRiver x = Scenes.counted(WHOLE, 10, 5);
        x.put(0, 20, -2);
        x.put(0, 25, -3);
        dueBoth("in place", x, 20, 21, -2, -2);
        dueBoth("the first of some", x, 20, 31, -2, 3);
        dueBoth("the last of some", x, 10, 26, 1, -3);
        dueBoth("it is at b", x, 10, 25, 1, -2);
        dueBoth("it is alone", x, 21, 30, -3, -3);
        x.put(0, 0, -1);
        x.put(0, 40, -4);
        dueBoth("the first and the last of all", x, 0, HIGHEST, -1, -4);
    }

    private static void tornBlocks() {
        sentence("(not TORN ones)");
        NumberRiver x = Scenes.counted(WHOLE, 10, 48);
        x.tear(0, 0, 0, 1);
        x.tear(0, 2, 0, 1);
        dueBoth("two torn", x, 0, 480, 16, 31);
        dueScans("two torn", x, 16, 0, 2);
        dueBoth("a torn one alone", x, 0, 151, NO, NO);
        dueScans("a torn one alone", x, 0, 0, 1);
        x.put(0, 470, 9);
        dueBoth("a late one of its last time", x, 0, 480, 16, 9);
    }

    private static void noSpans() {
        sentence("they do not look at SPANS");
        NumberRiver x = Scenes.windows(WHOLE);
        dueBoth("spans alone", x, 0, 200, NO, NO);
        dueScans("none is cut", x, 0, 0, 0);
        dueBoth("a part of a span and of a block", x, 150, 221, 20, 22);
        dueScans("none is cut there", x, 16, 0, 0);
    }

    private static void extremes() {
        sentence("a TIME, 0 .. 10^9, and a VALUE, -10^12 .. 10^12");
        NumberRiver x = Scenes.with(WHOLE);
        x.put(0, 0, -TOP);
        x.put(0, LAST_TIME, TOP);
        dueBoth("all", x, 0, HIGHEST, -TOP, TOP);
        dueBoth("but the last time", x, 0, LAST_TIME, -TOP, -TOP);
        dueBoth("the last time alone", x, LAST_TIME, LAST_TIME + 1, TOP, TOP);
    }

    private static void refusals() {
        sentence("NO: no such SERIES, a, b as of count()");
        due("a 0, b 1", Scenes.rich().value(3, 0, 1, true), 0);
        noSuchWindow((x, a, b) -> x.value(0, a, b, false), NO);
        noSuchWindow((x, a, b) -> x.value(0, a, b, true), NO);
        noSuchSeries((x, s) -> x.value(s, 0, 500, true), NO);
    }

    private static void askingLeavesNothing() {
        sentence("Of the latest question (no question changes what another one answers)");
        leavesOnlyItsScan("the first", x -> x.value(0, 101, 300, false));
        leavesOnlyItsScan("the last", x -> x.value(2, 0, 51, true));
        leavesOnlyItsScan("none", x -> x.value(1, 50, 60, true));
    }
}
