/** Promise 26, about: what it tells of a series, and of all of them. */
public final class Promise26AboutTest extends Edges {
    public static void main(String[] args) {
        promise(26, "about");
        whats();
        whichSeries();
        howManySeries();
        anEmptySeries();
        atTheirMost();
        tornOrNot();
        bitsOfAllBlocks();
        asTheOthersTell();
        tellingChangesNothing();
        end();
    }

    private static void whats() {
        sentence("what 0 KIND, 1 BLOCKS, 2 SPANS, 3 LATE POINTS, 4 MAIN POINTS, 5 BITS, 6 BLOCKS that are TORN. NONE.");
        NumberRiver x = Scenes.rich();
        int[] kind = {WHOLE, FLAG, LEVEL, SUM};
        int[] blocks = {2, 1, 2, 3};
        int[] spans = {2, 0, 0, 0};
        int[] late = {2, 0, 1, 0};
        int[] main = {31, 2, 21, 40};
        int[] torn = {0, 0, 0, 1};
        for (int s = 0; s < 4; s++) {
            due("kind of " + s, x.about(s, 0), kind[s]);
            due("blocks of " + s, x.about(s, 1), blocks[s]);
            due("spans of " + s, x.about(s, 2), spans[s]);
            due("late points of " + s, x.about(s, 3), late[s]);
            due("main points of " + s, x.about(s, 4), main[s]);
            due("torn blocks of " + s, x.about(s, 6), torn[s]);
        }
        due("bits of 1: 96, then 9 and 15", x.about(1, 5), 96 + 24);
        for (int what : new int[] {-1, 7, LOWEST, HIGHEST}) {
            changesNothing("what " + what, Scenes::rich, y -> y.about(0, what), NONE);
        }
    }

    private static void whichSeries() {
        sentence("NONE no such SERIES");
        due("the last series", Scenes.rich().about(3, 0), SUM);
        for (int s : new int[] {-2, 4, LOWEST, HIGHEST}) {
            for (int what = 0; what < 2; what++) {
                int of = what;
                changesNothing("series " + s + ", what " + of, Scenes::rich, x -> x.about(s, of), NONE);
            }
        }
    }

    private static void howManySeries() {
        sentence("of series -1 what 0 how many SERIES. NONE.");
        NumberRiver x = new NumberRiver();
        for (int n = 0; n <= 8; n++) {
            due("of " + n, x.about(-1, 0), n);
            due("series " + n + " is not there", x.about(n, 0), NONE);
            due("one more", x.series(n % 4), n < 8 ? n : FULL);
        }
        due("eight at most", x.about(-1, 0), 8);
        for (int what : new int[] {-1, 1, 2, 3, 4, 5, 6, 7, LOWEST, HIGHEST}) {
            changesNothing("series -1, what " + what, Scenes::rich, y -> y.about(-1, what), NONE);
        }
    }

    private static void anEmptySeries() {
        sentence("Of a SERIES");
        for (int kind = 0; kind < 4; kind++) {
            NumberRiver x = Scenes.with(kind);
            due("its kind", x.about(0, 0), kind);
            for (int what = 1; what <= 6; what++) {
                due("kind " + kind + ", what " + what, x.about(0, what), 0);
            }
        }
    }

    private static void atTheirMost() {
        sentence("2 SPANS (60), 3 LATE POINTS (40), 4 MAIN POINTS (300)");
        NumberRiver x = Scenes.fullOfMain();
        due("300 main", x.about(0, 4), 300);
        due("19 blocks", x.about(0, 1), 19);
        due("the 301st is refused", x.put(0, 700, 1), FULL);
        due("still 300", x.about(0, 4), 300);
        NumberRiver y = Scenes.fullOfLate();
        due("40 late", y.about(0, 3), 40);
        due("the 41st is refused", y.put(0, 0, 1), FULL);
        due("still 40", y.about(0, 3), 40);
        due("100 main", y.about(0, 4), 100);
        NumberRiver z = Scenes.fullOfSpans();
        due("60 spans", z.about(0, 2), 60);
        due("the 61st is refused", z.thin(0, 61, 1), FULL);
        due("still 60", z.about(0, 2), 60);
    }

    private static void tornOrNot() {
        sentence("4 MAIN POINTS (TORN or not), 6 BLOCKS that are TORN");
        NumberRiver x = Scenes.counted(WHOLE, 10, 40);
        int bits = x.about(0, 5);
        for (int i = 0; i < 3; i++) {
            x.tear(0, i, 0, 1);
            due("torn", x.about(0, 6), i + 1);
            due("main", x.about(0, 4), 40);
            due("blocks", x.about(0, 1), 3);
            due("bits as they were made", x.about(0, 5), bits);
        }
        x.tear(0, 1, 0, 1);
        due("one mended", x.about(0, 6), 2);
    }

    private static void bitsOfAllBlocks() {
        sentence("5 BITS of all BLOCKS");
        NumberRiver x = Scenes.with(WHOLE);
        // In each block 96, then 10, then 2 each.
        x.fill(0, 0, 1, 5, 0, 16);
        due("of one", x.about(0, 5), 96 + 10 + 14 * 2);
        x.put(0, 16, 5);
        due("of 16 and one", x.about(0, 5), 96 + 10 + 14 * 2 + 96);
        x.put(0, 3, 5);
        due("late ones take none", x.about(0, 5), 96 + 10 + 14 * 2 + 96);
        x.thin(0, 0, 1);
        x.merge(0);
        x.thin(0, 16, 16);
        due("spans take none", x.about(0, 5), 96);
    }

    private static void asTheOthersTell() {
        sentence("its MAIN POINTS are those of its BLOCKS (of a TORN one as many as its HEAD tells)");
        NumberRiver x = Scenes.rich();
        for (int s = 0; s < 4; s++) {
            int points = 0;
            int bits = 0;
            for (int i = 0; i < x.about(s, 1); i++) {
                points += x.block(s, i, 0);
                bits += x.block(s, i, 6);
            }
            due("main points of series " + s, x.about(s, 4), points);
            due("bits of series " + s, x.about(s, 5), bits);
            due("no block more", x.block(s, x.about(s, 1), 0), NONE);
            due("no span more", x.span(s, x.about(s, 2), 0), NO);
            due("no late point more", x.late(s, x.about(s, 3), 0), NO);
        }
    }

    private static void tellingChangesNothing() {
        sentence("Nothing is promised beyond the answers and state changes described above");
        changesNothing("how many series", Scenes::rich, x -> x.about(-1, 0), 4);
        changesNothing("blocks", Scenes::rich, x -> x.about(3, 1), 3);
        changesNothing("torn blocks", Scenes::rich, x -> x.about(3, 6), 1);
        changesNothing("late points", Scenes::rich, x -> x.about(0, 3), 2);
    }
}
