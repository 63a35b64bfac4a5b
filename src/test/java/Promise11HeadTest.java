/** Promise 11, head: the least, the greatest value and the sum of a block. */
public final class Promise11HeadTest extends Edges {
    public static void main(String[] args) {
        promise(11, "head");
        whats();
        whichBlock();
        whichSeries();
        onePoint();
        extremes();
        asItWasMade();
        tellingChangesNothing();
        end();
    }

    private static void whats() {
        sentence("what 0 the least, 1 the greatest VALUE, 2 the sum. NO.");
        NumberRiver x = Scenes.counted(WHOLE, 10, 16);
        due("what 0", x.head(0, 0, 0), 0);
        due("what 1", x.head(0, 0, 1), 15);
        due("what 2", x.head(0, 0, 2), 120);
        for (int what : new int[] {-1, 3, LOWEST, HIGHEST}) {
            changesNothing("what " + what, Scenes::rich, y -> y.head(0, 0, what), NO);
        }
    }

    private static void whichBlock() {
        sentence("NO: no such BLOCK");
        NumberRiver x = Scenes.counted(WHOLE, 10, 33);
        due("the first", x.head(0, 0, 1), 15);
        due("the last", x.head(0, 2, 1), 32);
        for (int i : new int[] {-1, 2, LOWEST, HIGHEST}) {
            changesNothing("block " + i, Scenes::rich, y -> y.head(0, i, 0), NO);
        }
        due("of an empty series", Scenes.with(WHOLE).head(0, 0, 0), NO);
    }

    private static void whichSeries() {
        sentence("NO: no such SERIES");
        due("the last series", Scenes.rich().head(3, 0, 1), 60);
        noSuchSeries((x, s) -> x.head(s, 0, 0), NO);
    }

    private static void onePoint() {
        sentence("the least and the greatest VALUE, the sum");
        for (long v : new long[] {-TOP, -1, 0, 1, TOP}) {
            NumberRiver x = Scenes.with(WHOLE);
            x.put(0, 5, v);
            for (int what = 0; what < 3; what++) {
                due("one point of " + v + ", what " + what, x.head(0, 0, what), v);
            }
        }
    }

    private static void extremes() {
        sentence("VALUES -10^12 .. 10^12; 16 POINTS");
        NumberRiver x = Scenes.with(WHOLE, WHOLE);
        x.fill(0, 0, 1, TOP, 0, 16);
        x.fill(1, 0, 1, -TOP, 0, 16);
        due("16 greatest ones", x.head(0, 0, 2), 16 * TOP);
        due("16 least ones", x.head(1, 0, 2), -16 * TOP);
        x.put(0, 16, 7);
        due("the 17th is not in it", x.head(0, 0, 0), TOP);
        due("it has a head of its own", x.head(0, 1, 0), 7);
        NumberRiver y = Scenes.with(WHOLE);
        y.put(0, 0, -3);
        y.put(0, 1, -TOP);
        y.put(0, 2, -1);
        due("the greatest is below 0", y.head(0, 0, 1), -1);
        due("the least", y.head(0, 0, 0), -TOP);
    }

    private static void asItWasMade() {
        sentence("a HEAD (of a TORN one as its HEAD tells)");
        NumberRiver x = Scenes.counted(WHOLE, 10, 16);
        x.tear(0, 0, 11, 255);
        due("torn, the least", x.head(0, 0, 0), 0);
        due("torn, the greatest", x.head(0, 0, 1), 15);
        due("torn, the sum", x.head(0, 0, 2), 120);
        x.put(0, 0, 1000);
        x.put(0, 155, 1000);
        due("late ones are not in it", x.head(0, 0, 1), 15);
    }

    private static void tellingChangesNothing() {
        sentence("Nothing is promised beyond the answers and state changes described above");
        changesNothing("the least", Scenes::rich, x -> x.head(3, 0, 0), 0);
        changesNothing("the greatest of a torn block", Scenes::rich, x -> x.head(3, 1, 1), 124);
        changesNothing("the sum of a block with late points in it", Scenes::rich, x -> x.head(2, 0, 2), 48);
    }
}
