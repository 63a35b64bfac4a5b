/** Promise 21, rise: steps, beginnings anew, the first in the window. */
public final class Promise21RiseTest extends Edges {
    public static void main(String[] args) {
        promise(21, "rise");
        noStep();
        beginningAnew();
        theFirstInTheWindow();
        windowEdges();
        overBlocks();
        latePoints();
        tornBlocks();
        noSpans();
        greatRises();
        otherKinds();
        refusals();
        askingLeavesNothing();
        end();
    }

    private static NumberRiver sums(long... values) {
        NumberRiver x = Scenes.with(SUM);
        for (int k = 0; k < values.length; k++) {
            x.put(0, 10 * k, values[k]);
        }
        return x;
    }

    private static void noStep() {
        sentence("over its POINTS in the WINDOW, in order: of each but the first");
        due("of none", Scenes.with(SUM).rise(0, 0, HIGHEST), 0);
        due("of one", sums(7).rise(0, 0, HIGHEST), 0);
        due("of none in the window", sums(7, 9).rise(0, 1, 10), 0);
        due("of two", sums(7, 9).rise(0, 0, HIGHEST), 2);
    }

    private static void beginningAnew() {
        sentence("the step from the one before, if that is not below 0, else its VALUE (a beginning anew from nought)");
        due("a step of 1", sums(5, 6).rise(0, 0, 100), 1);
        due("a step of 0", sums(5, 5).rise(0, 0, 100), 0);
        due("a step of -1", sums(5, 4).rise(0, 0, 100), 4);
        due("down to 0", sums(5, 0).rise(0, 0, 100), 0);
        due("down to 1", sums(5, 1).rise(0, 0, 100), 1);
        due("down and up again", sums(5, 1, 3).rise(0, 0, 100), 1 + 2);
        due("twice down", sums(5, 4, 3).rise(0, 0, 100), 4 + 3);
        due("from 0 to 0", sums(0, 0).rise(0, 0, 100), 0);
    }

    private static void theFirstInTheWindow() {
        sentence("of each but the first");
        NumberRiver x = sums(100, 3, 8, 2, 9);
        due("all", x.rise(0, 0, 41), 3 + 5 + 2 + 7);
        due("the one before the window is not seen", x.rise(0, 1, 41), 5 + 2 + 7);
        due("a beginning anew that is the first", x.rise(0, 30, 41), 7);
    }

    private static void windowEdges() {
        sentence("its POINTS in the WINDOW (a .. b - 1)");
        NumberRiver x = sums(1, 10, 100, 1000);
        due("a at a point", x.rise(0, 10, 31), 990);
        due("a one behind", x.rise(0, 11, 31), 900);
        due("b at a point", x.rise(0, 0, 30), 99);
        due("b one behind", x.rise(0, 0, 31), 999);
    }

    private static void overBlocks() {
        sentence("rise and value unpack all BLOCKS of which some TIME is");
        NumberRiver x = Scenes.counted(SUM, 10, 40);
        due("all", x.rise(0, 0, 391), 39);
        dueScans("all", x, 40, 0, 0);
        due("the step between two blocks", x.rise(0, 150, 161), 1);
        dueScans("two blocks", x, 32, 0, 0);
        due("the last of one", x.rise(0, 150, 160), 0);
        dueScans("one block", x, 16, 0, 0);
        due("between two blocks", x.rise(0, 151, 160), 0);
        dueScans("no block", x, 0, 0, 0);
        due("between two points", x.rise(0, 141, 150), 0);
        dueScans("one block, no point", x, 16, 0, 0);
    }

    private static void latePoints() {
        sentence("THE POINTS: its LATE ones; of two with one TIME the LATE one alone");
        NumberRiver x = sums(1, 10, 100);
        x.put(0, 15, 5);
        due("one among them", x.rise(0, 0, 100), 9 + 5 + 95);
        x.put(0, 10, 2);
        due("one in place", x.rise(0, 0, 100), 1 + 3 + 95);
        due("it is the first", x.rise(0, 10, 100), 3 + 95);
        due("it is the last", x.rise(0, 0, 16), 1 + 3);
        due("it is at b", x.rise(0, 0, 15), 1);
    }

    private static void tornBlocks() {
        sentence("(not TORN ones)");
        NumberRiver x = Scenes.counted(SUM, 10, 48);
        x.tear(0, 1, 0, 1);
        due("from the block ahead to the one behind", x.rise(0, 0, 471), 47);
        dueScans("one torn", x, 32, 0, 1);
        due("the torn one alone", x.rise(0, 160, 320), 0);
        dueScans("the torn one alone", x, 0, 0, 1);
        x.put(0, 200, 3);
        due("a late one in it", x.rise(0, 150, 321), 3 + 29);
    }

    private static void noSpans() {
        sentence("they do not look at SPANS");
        NumberRiver x = Scenes.windows(SUM);
        due("spans are not in it", x.rise(0, 0, 591), 39);
        dueScans("none is cut", x, 40, 0, 0);
        due("spans alone", x.rise(0, 0, 199), 0);
        dueScans("none is cut there", x, 0, 0, 0);
    }

    private static void greatRises() {
        sentence("VALUES 0 .. 10^12; 300 MAIN POINTS");
        NumberRiver x = Scenes.with(SUM);
        for (int k = 0; k < 300; k++) {
            x.put(0, k, k % 2 == 0 ? 0 : TOP);
        }
        due("up and down", x.rise(0, 0, 300), 150 * TOP);
        NumberRiver y = sums(TOP, TOP - 1, TOP);
        due("nearly as great anew", y.rise(0, 0, 100), TOP - 1 + 1);
    }

    private static void otherKinds() {
        sentence("NO: another KIND, too.");
        due("SUM", Scenes.rich().rise(3, 0, 51), 20);
        for (int s = 0; s < 3; s++) {
            int series = s;
            changesNothing("kind " + s, Scenes::rich, x -> x.rise(series, 0, 50), NO);
        }
    }

    private static void refusals() {
        sentence("NO: no such SERIES, a, b as of count()");
        noSuchWindow((x, a, b) -> x.rise(3, a, b), NO);
        noSuchSeries((x, s) -> x.rise(s, 0, 500), NO);
    }

    private static void askingLeavesNothing() {
        sentence("Of the latest question (no question changes what another one answers)");
        leavesOnlyItsScan("rise", x -> x.rise(3, 5, 355));
        leavesOnlyItsScan("rise beside a torn block", x -> x.rise(3, 160, 311));
    }
}
