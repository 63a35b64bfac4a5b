/** Promise 7, merge: what becomes of late points, 16 in a block, 300 at most. */
public final class Promise07MergeTest extends Edges {
    public static void main(String[] args) {
        promise(7, "merge");
        nothingToMerge();
        sixteenInEachButTheLast();
        blocksAnew();
        aheadOfAll();
        atTimesOfMainPoints();
        threeHundred();
        fortyLate();
        tornBlocks();
        stateBeforeFull();
        behindSpans();
        whichSeries();
        end();
    }

    private static void nothingToMerge() {
        sentence("how many POINTS are MAIN then");
        due("of an empty series", Scenes.with(WHOLE).merge(0), 0);
        changesNothing("of an empty series", () -> Scenes.with(WHOLE), x -> x.merge(0), 0);
        changesNothing("of one without late points", () -> Scenes.counted(WHOLE, 10, 40), x -> x.merge(0), 40);
    }

    private static void sixteenInEachButTheLast() {
        sentence("which are all put in BLOCKS anew, 16 in each but the last");
        NumberRiver x = Scenes.counted(WHOLE, 10, 15);
        x.put(0, 5, 9);
        due("15 and a late one", x.merge(0), 16);
        due("one block", x.about(0, 1), 1);
        due("of 16", x.block(0, 0, 0), 16);
        NumberRiver y = Scenes.counted(WHOLE, 10, 16);
        y.put(0, 5, 9);
        due("16 and a late one", y.merge(0), 17);
        due("two blocks", y.about(0, 1), 2);
        due("the first of 16", y.block(0, 0, 0), 16);
        due("it ends where it must", y.block(0, 0, 2), 140);
        due("the last of one", y.block(0, 1, 0), 1);
        due("the next one is put there", y.put(0, 160, 0), 1);
        due("the last has two", y.block(0, 1, 0), 2);
    }

    private static void blocksAnew() {
        sentence("all put in BLOCKS anew");
        same("a late one among them, or put in order", () -> {
            NumberRiver x = Scenes.with(WHOLE);
            x.fill(0, 0, 10, 100, 7, 20);
            x.put(0, 200, -5);
            x.put(0, 1000, 77);
            x.put(0, 205, 3);
            x.merge(0);
            return x;
        }, () -> {
            NumberRiver x = Scenes.with(WHOLE);
            x.fill(0, 0, 10, 100, 7, 20);
            x.put(0, 200, -5);
            x.put(0, 205, 3);
            x.put(0, 1000, 77);
            return x;
        });
        same("blocks torn and mended, or never torn", () -> {
            NumberRiver x = Scenes.manyBlocks();
            x.merge(0);
            return x;
        }, () -> Scenes.counted(WHOLE, 10, 20));
        changesNothing("the frames begin anew, too", () -> {
            NumberRiver x = Scenes.with(WHOLE);
            x.put(0, 0, 0);
            x.put(0, 1, 1);
            x.put(0, 2, -1);
            x.put(0, 3, 0);
            return x;
        }, x -> x.merge(0), 4);
    }

    private static void aheadOfAll() {
        sentence("LATE POINTS come among the MAIN ones");
        NumberRiver x = Scenes.with(WHOLE);
        x.put(0, LAST_TIME, 1);
        x.put(0, 0, 2);
        due("time 0 and the last time", x.merge(0), 2);
        due("the first", x.point(0, 0, 0, 0), 0);
        due("the last", x.point(0, 0, 1, 0), LAST_TIME);
        due("no late ones", x.about(0, 3), 0);
        due("late no more", x.late(0, 0, 0), NO);
    }

    private static void atTimesOfMainPoints() {
        sentence("of two with one TIME the LATE one alone");
        NumberRiver x = Scenes.counted(WHOLE, 10, 20);
        x.put(0, 0, -1);
        x.put(0, 150, -2);
        x.put(0, 160, -3);
        x.put(0, 190, -4);
        due("no more than before", x.merge(0), 20);
        due("the first", x.point(0, 0, 0, 1), -1);
        due("the last of a block", x.point(0, 0, 15, 1), -2);
        due("the first of a block", x.point(0, 1, 0, 1), -3);
        due("the last of all", x.point(0, 1, 3, 1), -4);
        due("the others stay", x.point(0, 0, 1, 1), 1);
    }

    private static NumberRiver threeHundredAndOne() {
        NumberRiver x = Scenes.fullOfMain();
        x.put(0, 301, 7);
        return x;
    }

    private static void threeHundred() {
        sentence("FULL: above 300");
        NumberRiver x = Scenes.counted(WHOLE, 2, 299);
        x.put(0, 301, 7);
        due("299 and one", x.merge(0), 300);
        due("300 are main", x.about(0, 4), 300);
        due("the one is among them", x.value(0, 301, 302, true), 7);
        x.put(0, 302, 8);
        due("300 and one of a main one's time", x.merge(0), 300);
        due("it is in place", x.value(0, 302, 303, true), 8);
        changesNothing("300 and one", Promise07MergeTest::threeHundredAndOne, y -> y.merge(0), FULL);
        NumberRiver y = threeHundredAndOne();
        y.merge(0);
        due("it is still late", y.late(0, 0, 0), 301);
        y.drop(0, 31);
        due("a block less", y.merge(0), 285);
    }

    private static NumberRiver late40(int main) {
        NumberRiver x = Scenes.counted(WHOLE, 2, main);
        for (int k = 0; k < 40; k++) {
            x.put(0, 2 * k + 1, -k);
        }
        return x;
    }

    private static void fortyLate() {
        sentence("FULL: above 300; LATE POINTS, 40 at most");
        due("260 and 40", late40(260).merge(0), 300);
        changesNothing("261 and 40", () -> late40(261), x -> x.merge(0), FULL);
    }

    private static NumberRiver tornOnce(int i, int k, int mask) {
        NumberRiver x = Scenes.counted(WHOLE, 10, 40);
        x.put(0, 5, 5);
        x.tear(0, i, k, mask);
        return x;
    }

    private static void tornBlocks() {
        sentence("STATE: a BLOCK is TORN");
        for (int i = 0; i < 3; i++) {
            int block = i;
            changesNothing("block " + i + " torn", () -> tornOnce(block, 0, 1), x -> x.merge(0), STATE);
        }
        due("torn by mask 0", tornOnce(1, 0, 0).merge(0), 41);
        NumberRiver x = tornOnce(1, 3, 128);
        x.tear(0, 1, 3, 128);
        due("torn and mended", x.merge(0), 41);
        NumberRiver y = Scenes.counted(WHOLE, 10, 40);
        y.tear(0, 0, 0, 1);
        due("torn, without late points", y.merge(0), STATE);
        y.drop(0, 151);
        due("the torn one dropped", y.merge(0), 24);
        due("another series is torn", Scenes.rich().merge(0), 32);
    }

    private static void stateBeforeFull() {
        sentence("of several the first one told here: STATE, FULL");
        changesNothing("torn and above 300", () -> {
            NumberRiver x = threeHundredAndOne();
            x.tear(0, 18, 0, 1);
            return x;
        }, x -> x.merge(0), STATE);
    }

    private static void behindSpans() {
        sentence("SPANS ahead of BLOCKS");
        NumberRiver x = Scenes.windows(WHOLE);
        due("late at the end of the last span", x.put(0, 200, -7), 2);
        due("late one behind it", x.put(0, 201, -8), 2);
        due("merged", x.merge(0), 41);
        due("the spans stay", x.about(0, 2), 2);
        due("the first main one", x.point(0, 0, 0, 1), -7);
        due("the second", x.point(0, 0, 1, 1), -8);
    }

    private static void whichSeries() {
        sentence("NONE no such SERIES");
        due("the last series, torn", Scenes.rich().merge(3), STATE);
        noSuchSeries((x, s) -> x.merge(s), NONE);
    }
}
