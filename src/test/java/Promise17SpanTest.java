/** Promise 17, span: 60 spans, what each tells. */
public final class Promise17SpanTest extends Edges {
    public static void main(String[] args) {
        promise(17, "span");
        whats();
        whichSpan();
        sixtyAtMost();
        onePoint();
        firstAndLast();
        extremes();
        madeAnew();
        whichSeries();
        inTheOrderOfTimes();
        tellingChangesNothing();
        end();
    }

    private static void whats() {
        sentence("what 0 BEGIN, 1 END, 2 how many, 3 sum, 4 least, 5 greatest, 6 first, 7 last. NO.");
        NumberRiver x = Scenes.rich();
        long[] want = {0, 50, 4, 5 + 8 + 11 + 14, 5, 14, 5, 14};
        for (int what = 0; what <= 7; what++) {
            due("what " + what, x.span(0, 0, what), want[what]);
        }
        for (int what : new int[] {-1, 8, LOWEST, HIGHEST}) {
            changesNothing("what " + what, Scenes::rich, y -> y.span(0, 0, what), NO);
        }
    }

    private static void whichSpan() {
        sentence("NO: no such SPAN");
        NumberRiver x = Scenes.rich();
        due("span 0", x.span(0, 0, 0), 0);
        due("span 1, the last", x.span(0, 1, 0), 50);
        for (int i : new int[] {-1, 2, LOWEST, HIGHEST}) {
            changesNothing("span " + i, Scenes::rich, y -> y.span(0, i, 0), NO);
        }
        due("of a series without any", x.span(1, 0, 0), NO);
        x.drop(0, 50);
        due("one went: span 0", x.span(0, 0, 0), 50);
        due("one went: span 1", x.span(0, 1, 0), NO);
        x.drop(0, 100);
        due("both went", x.span(0, 0, 0), NO);
    }

    private static void sixtyAtMost() {
        sentence("60 SPANS at most");
        NumberRiver x = Scenes.fullOfSpans();
        due("the refused 61st", x.thin(0, 61, 1), FULL);
        for (int i = 0; i < 60; i++) {
            due("begin of " + i, x.span(0, i, 0), i);
            due("end of " + i, x.span(0, i, 1), i + 1);
            due("sum of " + i, x.span(0, i, 3), i);
        }
        due("span 60", x.span(0, 60, 0), NO);
    }

    private static void onePoint() {
        sentence("of the POINTS that were in it, one at least");
        NumberRiver x = Scenes.with(WHOLE);
        x.put(0, 19, -6);
        due("thinned", x.thin(0, 20, 10), 1);
        long[] want = {10, 20, 1, -6, -6, -6, -6, -6};
        for (int what = 0; what <= 7; what++) {
            due("what " + what, x.span(0, 0, what), want[what]);
        }
    }

    private static void firstAndLast() {
        sentence("the first and the last one's VALUE");
        NumberRiver x = Scenes.with(WHOLE);
        long[] values = {4, -9, 12, 6};
        for (int k = 0; k < 4; k++) {
            x.put(0, 10 + 3 * k, values[k]);
        }
        x.thin(0, 20, 10);
        long[] want = {10, 20, 4, 13, -9, 12, 4, 6};
        for (int what = 0; what <= 7; what++) {
            due("what " + what, x.span(0, 0, what), want[what]);
        }
    }

    private static void extremes() {
        sentence("how many, their sum; 300 MAIN POINTS, VALUES -10^12 .. 10^12");
        NumberRiver x = Scenes.with(WHOLE);
        for (int done = 0; done < 300; done += 40) {
            x.fill(0, done, 1, TOP, 0, Math.min(40, 300 - done));
        }
        due("300 in one", x.thin(0, 1000, 1000), 1);
        due("how many", x.span(0, 0, 2), 300);
        due("their sum", x.span(0, 0, 3), 300 * TOP);
        x.put(0, 1000, -TOP);
        x.put(0, LAST_TIME - 1, -TOP);
        due("two more", x.thin(0, LAST_TIME, 1000), 3);
        due("the least", x.span(0, 1, 4), -TOP);
        due("the last end", x.span(0, 2, 1), LAST_TIME);
    }

    private static void madeAnew() {
        sentence("of the POINTS that were in it");
        NumberRiver x = Scenes.rich();
        due("both dropped", x.drop(0, 100), 2);
        x.merge(0);
        due("another one", x.thin(0, 150, 50), 1);
        // Late 8 at 100, then 35, 38, 41 and 44.
        long[] want = {100, 150, 5, 8 + 35 + 38 + 41 + 44, 8, 44, 8, 44};
        for (int what = 0; what <= 7; what++) {
            due("nothing of the ones before, what " + what, x.span(0, 0, what), want[what]);
        }
    }

    private static void whichSeries() {
        sentence("NO: no such SERIES");
        NumberRiver x = Scenes.rich();
        x.tear(3, 1, 0, 128);
        due("thinned", x.thin(3, 100, 100), 1);
        due("the last series", x.span(3, 0, 2), 10);
        noSuchSeries((y, s) -> y.span(s, 0, 0), NO);
    }

    private static void inTheOrderOfTimes() {
        sentence("A SERIES has SPANS, BLOCKS, both in the order of TIMES, SPANS ahead of BLOCKS");
        NumberRiver x = Scenes.counted(WHOLE, 7, 120);
        due("thinned by 100", x.thin(0, 100, 100), 1);
        due("thinned by 50", x.thin(0, 300, 50), 5);
        due("thinned by 20", x.thin(0, 500, 20), 15);
        for (int done = 0; done < 2; done++) {
            long before = 0;
            for (int i = 0; i < x.about(0, 2); i++) {
                due("span " + i + " begins not below the end before", x.span(0, i, 0) >= before ? 1 : 0, 1);
                before = x.span(0, i, 1);
            }
            due("the first block begins not below the last end", x.block(0, 0, 1) >= before ? 1 : 0, 1);
            due("two spans go, once", x.drop(0, 150), done == 0 ? 2 : 0);
        }
    }

    private static void tellingChangesNothing() {
        sentence("Nothing is promised beyond the answers and state changes described above");
        changesNothing("a begin", Scenes::rich, x -> x.span(0, 1, 0), 50);
        changesNothing("how many", Scenes::rich, x -> x.span(0, 1, 2), 5);
    }
}
