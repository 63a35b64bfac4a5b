/** Promise 24, group: which keys, labels and whats there are, and over how many series. */
public final class Promise24GroupTest extends Edges {
    public static void main(String[] args) {
        promise(24, "group");
        keys();
        labels();
        whats();
        windows();
        noneHasIt();
        oneAndEight();
        windowEdges();
        tornAndCut();
        askingLeavesNothing();
        end();
    }

    private static void keys() {
        sentence("LABEL v of a KEY (0 .. 7). NO: key");
        NumberRiver x = Scenes.rich();
        due("key 0", x.group(0, 0, 0, 500, 0), 40 + 1 + 40 - 16);
        due("key 7", x.group(7, 15, 0, 500, 0), 40 + 1);
        for (int key : new int[] {-1, 8, LOWEST, HIGHEST}) {
            changesNothing("key " + key, Scenes::rich, y -> y.group(key, 0, 0, 500, 0), NO);
        }
    }

    private static void labels() {
        sentence("LABEL v (0 .. 15). NO: v");
        NumberRiver x = Scenes.rich();
        due("label 0", x.group(0, 0, 0, 1, 0), 1);
        due("label 15", x.group(7, 15, 100, 101, 0), 1);
        due("label 14, that none has", x.group(7, 14, 0, 500, 0), 0);
        for (int v : new int[] {-1, 16, LOWEST, HIGHEST}) {
            changesNothing("label " + v, Scenes::rich, y -> y.group(7, v, 0, 500, 0), NO);
        }
    }

    private static void whats() {
        sentence("what 0 counts of the WINDOW, 1 sums, together. NO: what");
        NumberRiver x = Scenes.rich();
        due("what 0", x.group(0, 0, 50, 100, 0), 5 + 5);
        due("what 1", x.group(0, 0, 50, 100, 1), (17 + 20 + 23 + 26 + 29) + (20 + 24 + 28 + 32 + 36));
        for (int what : new int[] {-1, 2, LOWEST, HIGHEST}) {
            changesNothing("what " + what, Scenes::rich, y -> y.group(0, 0, 50, 100, what), NO);
        }
    }

    private static void windows() {
        sentence("NO: a, b");
        due("a 0, b 1", Scenes.rich().group(0, 0, 0, 1, 1), 0);
        noSuchWindow((x, a, b) -> x.group(0, 0, a, b, 0), NO);
        noSuchWindow((x, a, b) -> x.group(0, 0, a, b, 1), NO);
    }

    private static void noneHasIt() {
        sentence("Over all SERIES that have LABEL v of a KEY");
        NumberRiver x = Scenes.rich();
        due("counts", x.group(5, 5, 0, 500, 0), 0);
        dueScans("it was not refused", x, 0, 0, 0);
        due("sums", x.group(5, 5, 0, 500, 1), 0);
        x.label(0, 0, -1);
        due("the label taken from one", x.group(0, 0, 0, 1, 0), 1);
        x.label(3, 0, -1);
        due("the label taken from both", x.group(0, 0, 0, 500, 0), 0);
    }

    private static void oneAndEight() {
        sentence("Over all SERIES; 8 at most");
        NumberRiver x = Scenes.with(0, 2, 3, 0, 2, 3, 0, 2);
        for (int s = 0; s < 8; s++) {
            x.fill(s, 0, 1, 1 << s, 0, 20);
            x.label(s, 4, 9);
        }
        due("counts of eight", x.group(4, 9, 0, 20, 0), 160);
        due("sums of eight", x.group(4, 9, 0, 20, 1), 20 * 255);
        for (int s = 0; s < 7; s++) {
            x.label(s, 4, 8);
        }
        due("the last alone", x.group(4, 9, 0, 20, 1), 20 * 128);
        due("all but the last", x.group(4, 8, 0, 20, 1), 20 * 127);
    }

    private static void windowEdges() {
        sentence("counts of the WINDOW (a .. b - 1)");
        NumberRiver x = Scenes.with(WHOLE, WHOLE);
        x.fill(0, 0, 10, 1, 0, 20);
        x.fill(1, 5, 10, 1, 0, 20);
        x.label(0, 0, 0);
        x.label(1, 0, 0);
        due("b at a point", x.group(0, 0, 0, 5, 0), 1);
        due("b one behind", x.group(0, 0, 0, 6, 0), 2);
        due("a at a point", x.group(0, 0, 190, 500, 0), 2);
        due("a one behind", x.group(0, 0, 191, 500, 0), 1);
        due("behind all", x.group(0, 0, 196, 500, 0), 0);
    }

    private static void tornAndCut() {
        sentence("(of group() all together)");
        NumberRiver x = Scenes.with(WHOLE, WHOLE, WHOLE);
        for (int s = 0; s < 3; s++) {
            x.fill(s, 0, 10, 1, 0, 40);
            x.thin(s, 50, 50);
            x.label(s, 0, s < 2 ? 1 : 2);
        }
        // Of each: span 0 .. 49, blocks 50 .. 200, 210 .. 360, 370 .. 390.
        x.tear(0, 1, 0, 1);
        x.tear(1, 1, 0, 1);
        x.tear(2, 1, 0, 1);
        due("of two", x.group(0, 1, 1, 380, 0), 2 * (16 + 1));
        dueScans("of two", x, 2 * 3, 2, 2);
        due("of one", x.group(0, 2, 1, 380, 0), 16 + 1);
        dueScans("of one", x, 3, 1, 1);
    }

    private static void askingLeavesNothing() {
        sentence("Of the latest question (no question changes what another one answers)");
        leavesOnlyItsScan("counts", x -> x.group(0, 0, 0, 500, 0));
        leavesOnlyItsScan("sums", x -> x.group(7, 15, 0, 260, 1));
        leavesOnlyItsScan("over no series", x -> x.group(6, 0, 0, 500, 1));
    }
}
