/** Promise 22, level: time in a level, from before the window on and up to b. */
public final class Promise22LevelTest extends Edges {
    public static void main(String[] args) {
        promise(22, "level");
        upToTheNext();
        upToB();
        fromBeforeTheWindow();
        noPointBelowB();
        anyLevel();
        whichBlocks();
        latePoints();
        tornBlocks();
        noSpans();
        farWindows();
        otherKinds();
        refusals();
        askingLeavesNothing();
        end();
    }

    /** Level 1 at 10 .. 19, 2 at 20 .. 29, 1 from 30 on. */
    private static NumberRiver levels() {
        NumberRiver x = Scenes.with(LEVEL);
        x.put(0, 10, 1);
        x.put(0, 20, 2);
        x.put(0, 30, 1);
        return x;
    }

    private static void upToTheNext() {
        sentence("the part of the WINDOW from its TIME up to the next one's if its VALUE is v");
        NumberRiver x = levels();
        due("level 1 up to 20", x.level(0, 0, 20, 1), 10);
        due("level 1 up to 21", x.level(0, 0, 21, 1), 10);
        due("level 1 up to 19", x.level(0, 0, 19, 1), 9);
        due("level 2", x.level(0, 0, 100, 2), 10);
        due("level 2 at 20 alone", x.level(0, 20, 21, 2), 1);
        due("level 1 at 20", x.level(0, 20, 21, 1), 0);
        due("level 2 at 29 alone", x.level(0, 29, 30, 2), 1);
        due("level 2 at 30", x.level(0, 30, 31, 2), 0);
    }

    private static void upToB() {
        sentence("(or b)");
        NumberRiver x = levels();
        due("the last one up to b", x.level(0, 0, 31, 1), 10 + 1);
        due("the last one at b", x.level(0, 0, 30, 1), 10);
        due("far behind", x.level(0, 1000, 1500, 1), 500);
        due("of level 2 nothing is left", x.level(0, 1000, 1500, 2), 0);
        due("the next is behind b", x.level(0, 20, 25, 2), 5);
    }

    private static void fromBeforeTheWindow() {
        sentence("of each of THE POINTS with TIME below b, the part of the WINDOW");
        NumberRiver x = levels();
        due("begun one before a", x.level(0, 11, 20, 1), 9);
        due("begun at a", x.level(0, 10, 20, 1), 10);
        due("begun one behind a", x.level(0, 9, 20, 1), 10);
        due("ended at a", x.level(0, 20, 30, 1), 0);
        due("ended one behind a", x.level(0, 19, 30, 1), 1);
    }

    private static void noPointBelowB() {
        sentence("THE POINTS with TIME below b");
        due("of an empty series", Scenes.with(LEVEL).level(0, 0, HIGHEST, 0), 0);
        due("the first is at b", levels().level(0, 0, 10, 1), 0);
        due("the first is one below b", levels().level(0, 0, 11, 1), 1);
    }

    private static void anyLevel() {
        sentence("if its VALUE is v");
        NumberRiver x = Scenes.with(LEVEL);
        x.put(0, 0, -TOP);
        x.put(0, 10, TOP);
        due("the least", x.level(0, 0, 30, -TOP), 10);
        due("the greatest", x.level(0, 0, 30, TOP), 20);
        due("one that is no value", x.level(0, 0, 30, TOP + 1), 0);
        due("one that is no value, below", x.level(0, 0, 30, -TOP - 1), 0);
        due("the highest number", x.level(0, 0, 30, Long.MAX_VALUE), 0);
        due("the lowest number", x.level(0, 0, 30, Long.MIN_VALUE), 0);
        dueScans("it was not refused", x, 2, 0, 0);
        due("0, before any point: no level at all", levels().level(0, 0, 10, 0), 0);
    }

    private static void whichBlocks() {
        sentence("level all with a first TIME below b");
        NumberRiver x = Scenes.counted(LEVEL, 10, 40);
        x.level(0, 0, 1, 0);
        dueScans("b 1", x, 16, 0, 0);
        x.level(0, 0, 160, 0);
        dueScans("the second one's first time is b", x, 16, 0, 0);
        x.level(0, 0, 161, 0);
        dueScans("it is one below b", x, 32, 0, 0);
        due("far behind all", x.level(0, 1000, 1001, 39), 1);
        dueScans("far behind all", x, 40, 0, 0);
        NumberRiver y = Scenes.with(LEVEL);
        y.put(0, 5, 1);
        y.level(0, 0, 5, 1);
        dueScans("ahead of all", y, 0, 0, 0);
        y.level(0, 0, 6, 1);
        dueScans("the first alone", y, 1, 0, 0);
    }

    private static void latePoints() {
        sentence("THE POINTS: its LATE ones; of two with one TIME the LATE one alone");
        NumberRiver x = levels();
        x.put(0, 25, 1);
        due("one among them", x.level(0, 0, 100, 2), 5);
        due("it goes on into the window", x.level(0, 26, 30, 1), 4);
        x.put(0, 10, 2);
        due("one in place", x.level(0, 0, 100, 2), 10 + 5);
        due("nothing of the one it stands for", x.level(0, 0, 25, 1), 0);
        x.put(0, 5, 1);
        due("one ahead of all", x.level(0, 0, 10, 1), 5);
        due("it is at b", x.level(0, 0, 5, 1), 0);
    }

    private static void tornBlocks() {
        sentence("(not TORN ones)");
        NumberRiver x = Scenes.with(LEVEL);
        x.fill(0, 0, 10, 1, 0, 16);
        x.fill(0, 160, 10, 2, 0, 16);
        x.fill(0, 320, 10, 3, 0, 16);
        x.tear(0, 1, 0, 1);
        due("the level goes on through a torn block", x.level(0, 0, 480, 1), 320);
        dueScans("one torn", x, 32, 0, 1);
        due("of the torn one nothing", x.level(0, 0, 480, 2), 0);
        due("behind the torn one", x.level(0, 320, 480, 3), 160);
        dueScans("a torn one before the window is not told", x, 32, 0, 0);
        x.put(0, 200, 2);
        due("a late one in it", x.level(0, 0, 480, 2), 120);
    }

    private static void noSpans() {
        sentence("they do not look at SPANS");
        NumberRiver x = levels();
        due("thinned", x.thin(0, 20, 20), 1);
        due("what the span had goes on no more", x.level(0, 0, 20, 1), 0);
        dueScans("no span is cut", x, 0, 0, 0);
        due("from the first point on", x.level(0, 5, 100, 2), 10);
        dueScans("no span is cut there", x, 2, 0, 0);
    }

    private static void farWindows() {
        sentence("a WINDOW a .. b - 1");
        NumberRiver x = Scenes.with(LEVEL);
        x.put(0, 0, 7);
        due("all that there is", x.level(0, 0, HIGHEST, 7), HIGHEST);
        due("the last window", x.level(0, HIGHEST - 1, HIGHEST, 7), 1);
        x.put(0, LAST_TIME, 8);
        due("up to the last time", x.level(0, 0, HIGHEST, 7), LAST_TIME);
        due("from the last time on", x.level(0, 0, HIGHEST, 8), HIGHEST - LAST_TIME);
    }

    private static void otherKinds() {
        sentence("NO: another KIND, too.");
        due("LEVEL", Scenes.rich().level(2, 0, 20, 3), 20);
        for (int s : new int[] {0, 1, 3}) {
            changesNothing("kind " + s, Scenes::rich, x -> x.level(s, 0, 50, 0), NO);
        }
    }

    private static void refusals() {
        sentence("NO: no such SERIES, a, b as of count()");
        noSuchWindow((x, a, b) -> x.level(2, a, b, 3), NO);
        noSuchSeries((x, s) -> x.level(s, 0, 500, 3), NO);
    }

    private static void askingLeavesNothing() {
        sentence("Of the latest question (no question changes what another one answers)");
        leavesOnlyItsScan("level", x -> x.level(2, 45, 90, 3));
        leavesOnlyItsScan("level behind all points", x -> x.level(2, 1000, 1001, 4));
    }
}
