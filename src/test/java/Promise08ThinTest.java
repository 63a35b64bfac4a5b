/** Promise 8, thin: widths, times and multiples, stretches with and without points, 60 spans. */
public final class Promise08ThinTest extends Edges {
    public static void main(String[] args) {
        promise(8, "thin");
        widths();
        times();
        multiples();
        endOfTheLastSpan();
        endIsNoMultiple();
        noSpanYet();
        latePoints();
        tornBlocks();
        belowT();
        edgesOfAStretch();
        stretchesWithoutPoints();
        nothingBelowT();
        sixteenInEachButTheLast();
        blocksAnew();
        blocksAnewThoughNothingGoes();
        sixtySpans();
        sixtySpansInSteps();
        whichSeries();
        orderOfRefusals();
        end();
    }

    private static void widths() {
        sentence("BAD: w not 1 .. 10^6");
        due("w 1", Scenes.counted(WHOLE, 10, 5).thin(0, 20, 1), 2);
        NumberRiver x = Scenes.counted(WHOLE, 10, 5);
        due("w 10^6", x.thin(0, 1_000_000, 1_000_000), 1);
        due("its end", x.span(0, 0, 1), 1_000_000);
        for (int w : new int[] {0, 1_000_001, -1, -10, LOWEST, HIGHEST}) {
            changesNothing("w " + w + ", t 0", () -> Scenes.counted(WHOLE, 10, 40), y -> y.thin(0, 0, w), BAD);
        }
        changesNothing("w 10^6 + 1, t a multiple", () -> Scenes.counted(WHOLE, 10, 40), y -> y.thin(0, 1_000_001, 1_000_001), BAD);
        changesNothing("w -10, t a multiple", () -> Scenes.counted(WHOLE, 10, 40), y -> y.thin(0, 20, -10), BAD);
    }

    private static void times() {
        sentence("BAD: t not 0 .. 10^9");
        due("t 0", Scenes.counted(WHOLE, 10, 5).thin(0, 0, 10), 0);
        NumberRiver x = Scenes.counted(WHOLE, 10, 5);
        x.put(0, LAST_TIME - 1, 5);
        x.put(0, LAST_TIME, 6);
        due("t 10^9", x.thin(0, LAST_TIME, 1000), 2);
        due("the last end", x.span(0, 1, 1), LAST_TIME);
        due("the last time stays", x.about(0, 4), 1);
        due("one below it is past", x.put(0, LAST_TIME - 1, 5), 0);
        due("it is late", x.put(0, LAST_TIME, 5), 2);
        for (int t : new int[] {-1, LAST_TIME + 1, LOWEST, HIGHEST}) {
            changesNothing("t " + t, () -> Scenes.counted(WHOLE, 10, 40), y -> y.thin(0, t, 1), BAD);
        }
        changesNothing("t -10, w 10", () -> Scenes.counted(WHOLE, 10, 40), y -> y.thin(0, -10, 10), BAD);
    }

    private static void multiples() {
        sentence("T a multiple of w; BAD: no multiple");
        due("t w", Scenes.counted(WHOLE, 10, 20).thin(0, 50, 50), 1);
        due("t 2 w", Scenes.counted(WHOLE, 10, 20).thin(0, 100, 50), 2);
        for (int t : new int[] {1, 49, 51, 99, 101}) {
            changesNothing("t " + t + ", w 50", () -> Scenes.counted(WHOLE, 10, 40), x -> x.thin(0, t, 50), BAD);
        }
    }

    private static void endOfTheLastSpan() {
        sentence("and not below the END of the last SPAN; BAD: below the END of the last SPAN");
        NumberRiver x = Scenes.windows(WHOLE);
        due("at the end", x.thin(0, 200, 100), 2);
        due("at the end, another width", x.thin(0, 200, 1), 2);
        due("behind the end", x.thin(0, 300, 100), 3);
        changesNothing("one width below the end", () -> Scenes.windows(WHOLE), y -> y.thin(0, 100, 100), BAD);
        changesNothing("one below the end", () -> Scenes.windows(WHOLE), y -> y.thin(0, 199, 1), BAD);
        changesNothing("t 0", () -> Scenes.windows(WHOLE), y -> y.thin(0, 0, 100), BAD);
        NumberRiver z = Scenes.counted(WHOLE, 10, 5);
        due("far behind all points", z.thin(0, 1000, 50), 1);
        due("the end is the span's, not t", z.thin(0, 50, 50), 1);
        due("so a point is put below t", z.put(0, 50, 1), 1);
    }

    private static void endIsNoMultiple() {
        sentence("which is a multiple of w, too; BAD: or that no multiple");
        due("200 is a multiple of 40", Scenes.windows(WHOLE).thin(0, 400, 40), 7);
        changesNothing("200 is none of 150", () -> Scenes.windows(WHOLE), x -> x.thin(0, 300, 150), BAD);
        changesNothing("200 is none of 400", () -> Scenes.windows(WHOLE), x -> x.thin(0, 400, 400), BAD);
        changesNothing("200 is none of 199", () -> Scenes.windows(WHOLE), x -> x.thin(0, 398, 199), BAD);
        NumberRiver x = Scenes.windows(WHOLE);
        x.drop(0, 200);
        due("no span is left", x.thin(0, 300, 150), 1);
        due("it begins", x.span(0, 0, 0), 150);
    }

    private static void noSpanYet() {
        sentence("the END of the last SPAN");
        due("of an empty series", Scenes.with(WHOLE).thin(0, 0, 1), 0);
        due("of an empty series, t 10^9", Scenes.with(WHOLE).thin(0, LAST_TIME, 1_000_000), 0);
        NumberRiver x = Scenes.with(WHOLE);
        x.thin(0, LAST_TIME, 1_000_000);
        due("no time is past by that", x.put(0, 0, 1), 1);
    }

    private static NumberRiver lateAt(int time) {
        NumberRiver x = Scenes.counted(WHOLE, 10, 40);
        x.put(0, time, 5);
        return x;
    }

    private static void latePoints() {
        sentence("all LATE POINTS must be merged (there are none); STATE: there are LATE POINTS");
        changesNothing("a late one below t", () -> lateAt(5), x -> x.thin(0, 100, 50), STATE);
        changesNothing("a late one from t on", () -> lateAt(390), x -> x.thin(0, 100, 50), STATE);
        changesNothing("nothing below t", () -> lateAt(5), x -> x.thin(0, 0, 50), STATE);
        NumberRiver x = lateAt(5);
        x.merge(0);
        due("merged", x.thin(0, 100, 50), 2);
        due("it is in the span", x.span(0, 0, 2), 6);
        NumberRiver y = lateAt(5);
        due("dropped", y.drop(0, 6), 0);
        due("none left", y.thin(0, 100, 50), 2);
    }

    private static NumberRiver tornAt(int block) {
        NumberRiver x = Scenes.counted(WHOLE, 10, 40);
        x.tear(0, block, 0, 1);
        return x;
    }

    private static void tornBlocks() {
        sentence("no BLOCK TORN; STATE: or a BLOCK is TORN");
        changesNothing("the first one", () -> tornAt(0), x -> x.thin(0, 100, 50), STATE);
        changesNothing("the last one, from t on", () -> tornAt(2), x -> x.thin(0, 100, 50), STATE);
        changesNothing("nothing below t", () -> tornAt(0), x -> x.thin(0, 0, 50), STATE);
        NumberRiver x = tornAt(2);
        x.tear(0, 2, 0, 1);
        due("mended", x.thin(0, 100, 50), 2);
    }

    private static void belowT() {
        sentence("All POINTS with TIMES below T go; those from T on are put in BLOCKS anew");
        NumberRiver x = Scenes.with(WHOLE);
        x.put(0, 99, 1);
        x.put(0, 100, 2);
        due("one span", x.thin(0, 100, 100), 1);
        due("99 goes", x.span(0, 0, 2), 1);
        due("100 stays", x.point(0, 0, 0, 0), 100);
        NumberRiver y = Scenes.counted(WHOLE, 10, 20);
        due("all are below 191", y.thin(0, 191, 191), 1);
        due("no block is left", y.about(0, 1), 0);
        due("no point is left", y.about(0, 4), 0);
        due("all are in the span", y.span(0, 0, 2), 20);
        NumberRiver z = Scenes.counted(WHOLE, 10, 20);
        due("190 is not below 190", z.thin(0, 190, 190), 1);
        due("one is left", z.about(0, 4), 1);
    }

    private static void edgesOfAStretch() {
        sentence("for each stretch k w .. (k + 1) w - 1 there is a SPAN with BEGIN k w, END (k + 1) w");
        NumberRiver x = Scenes.with(WHOLE);
        for (int time : new int[] {0, 49, 50, 99, 149, 150}) {
            x.put(0, time, time);
        }
        due("four stretches", x.thin(0, 200, 50), 4);
        long[] begins = {0, 50, 100, 150};
        long[] sizes = {2, 2, 1, 1};
        long[] lasts = {49, 99, 149, 150};
        for (int i = 0; i < 4; i++) {
            due("begin " + i, x.span(0, i, 0), begins[i]);
            due("end " + i, x.span(0, i, 1), begins[i] + 50);
            due("how many " + i, x.span(0, i, 2), sizes[i]);
            due("last " + i, x.span(0, i, 7), lasts[i]);
        }
        NumberRiver y = Scenes.counted(WHOLE, 1, 3);
        due("width 1", y.thin(0, 2, 1), 2);
        due("its begin", y.span(0, 1, 0), 1);
        due("its end", y.span(0, 1, 1), 2);
    }

    private static void stretchesWithoutPoints() {
        sentence("for each stretch in which some of them were; of the POINTS that were in it, one at least");
        NumberRiver x = Scenes.with(WHOLE);
        x.put(0, 10, 1);
        x.put(0, 30, 2);
        due("two of four stretches", x.thin(0, 40, 10), 2);
        due("the first begins", x.span(0, 0, 0), 10);
        due("the second begins", x.span(0, 1, 0), 30);
        due("there is no third", x.span(0, 2, 0), NO);
        x.put(0, LAST_TIME, 3);
        due("a long stretch of nothing", x.thin(0, LAST_TIME, 10), 2);
    }

    private static void nothingBelowT() {
        sentence("All POINTS with TIMES below T go");
        changesNothing("t 0", () -> Scenes.counted(WHOLE, 10, 40), x -> x.thin(0, 0, 10), 0);
        NumberRiver x = Scenes.with(WHOLE);
        x.fill(0, 100, 10, 0, 1, 3);
        due("t at the first time", x.thin(0, 100, 100), 0);
        due("all are left", x.about(0, 4), 3);
        due("nothing is past", x.put(0, 0, 0), 2);
        changesNothing("t at the end of the last span", () -> Scenes.windows(WHOLE), y -> y.thin(0, 200, 50), 2);
    }

    private static void sixteenInEachButTheLast() {
        sentence("16 in each but the last");
        NumberRiver x = Scenes.counted(WHOLE, 10, 40);
        due("16 are left", x.thin(0, 240, 240), 1);
        due("one block", x.about(0, 1), 1);
        due("of 16", x.block(0, 0, 0), 16);
        due("the next makes another", x.put(0, 400, 0), 1);
        due("two blocks", x.about(0, 1), 2);
        NumberRiver y = Scenes.counted(WHOLE, 10, 40);
        due("17 are left", y.thin(0, 230, 230), 1);
        due("two blocks", y.about(0, 1), 2);
        due("the first of 16", y.block(0, 0, 0), 16);
        due("the last of one", y.block(0, 1, 0), 1);
    }

    private static void blocksAnew() {
        sentence("those from T on are put in BLOCKS anew");
        NumberRiver x = Scenes.counted(WHOLE, 10, 60);
        x.thin(0, 90, 90);
        NumberRiver y = Scenes.with(WHOLE);
        y.fill(0, 90, 10, 9, 1, 40);
        y.fill(0, 490, 10, 49, 1, 11);
        due("as many blocks", x.about(0, 1), y.about(0, 1));
        for (int i = 0; i < 4; i++) {
            for (int what = 0; what < 7; what++) {
                due("block " + i + " what " + what, x.block(0, i, what), y.block(0, i, what));
            }
            for (int what = 0; what < 3; what++) {
                due("head " + i + " what " + what, x.head(0, i, what), y.head(0, i, what));
            }
            for (int k = 0; k < y.block(0, i, 3); k++) {
                due("block " + i + " byte " + k, x.at(0, i, k), y.at(0, i, k));
            }
        }
    }

    private static void blocksAnewThoughNothingGoes() {
        sentence("those from T on are put in BLOCKS anew, 16 in each but the last");
        due("20 blocks", Scenes.manyBlocks().about(0, 1), 20);
        same("nothing below t", () -> {
            NumberRiver x = Scenes.manyBlocks();
            due("no span", x.thin(0, 0, 1), 0);
            return x;
        }, () -> Scenes.counted(WHOLE, 10, 20));
    }

    private static void sixtySpans() {
        sentence("FULL: above 60 SPANS");
        NumberRiver x = Scenes.counted(WHOLE, 1, 100);
        due("60", x.thin(0, 60, 1), 60);
        due("the last one", x.span(0, 59, 0), 59);
        due("there is no 61st", x.span(0, 60, 0), NO);
        changesNothing("61 at once", () -> Scenes.counted(WHOLE, 1, 100), y -> y.thin(0, 61, 1), FULL);
        changesNothing("one to 60", Scenes::fullOfSpans, y -> y.thin(0, 61, 1), FULL);
        changesNothing("many to 60", Scenes::fullOfSpans, y -> y.thin(0, 120, 60), FULL);
        due("none to 60", Scenes.fullOfSpans().thin(0, 60, 60), 60);
    }

    private static void sixtySpansInSteps() {
        sentence("It is THINNED: how many SPANS it has; FULL: above 60 SPANS");
        NumberRiver x = Scenes.counted(WHOLE, 1, 100);
        due("59", x.thin(0, 59, 1), 59);
        due("two more", x.thin(0, 61, 1), FULL);
        due("still 59", x.about(0, 2), 59);
        due("one more", x.thin(0, 60, 1), 60);
        due("ten dropped", x.drop(0, 10), 10);
        due("eleven more", x.thin(0, 71, 1), FULL);
        due("ten more", x.thin(0, 70, 1), 60);
    }

    private static void whichSeries() {
        sentence("NONE no such SERIES");
        due("series 1", Scenes.rich().thin(1, 2, 1), 2);
        noSuchSeries((x, s) -> x.thin(s, 0, 1), NONE);
    }

    private static void orderOfRefusals() {
        sentence("of several the first one told here: NONE, BAD, STATE, FULL");
        changesNothing("no series, w 0", Scenes::rich, x -> x.thin(4, 0, 0), NONE);
        changesNothing("no series, t -1", Scenes::rich, x -> x.thin(-1, -1, 1), NONE);
        changesNothing("late, no multiple", () -> lateAt(5), x -> x.thin(0, 101, 50), BAD);
        changesNothing("torn, w 0", () -> tornAt(0), x -> x.thin(0, 100, 0), BAD);
        changesNothing("late, below the last end", Scenes::rich, x -> x.thin(0, 50, 50), BAD);
        changesNothing("late, the end no multiple", Scenes::rich, x -> x.thin(0, 150, 75), BAD);
        changesNothing("late and above 60", () -> {
            NumberRiver x = Scenes.fullOfSpans();
            x.put(0, 70, 1);
            return x;
        }, x -> x.thin(0, 61, 1), STATE);
        changesNothing("torn and above 60", () -> {
            NumberRiver x = Scenes.fullOfSpans();
            x.tear(0, 0, 0, 1);
            return x;
        }, x -> x.thin(0, 61, 1), STATE);
    }
}
