/** Promise 6, fill: how many at most, which steps and rises, and what ends it. */
public final class Promise06FillTest extends Edges {
    public static void main(String[] args) {
        promise(6, "fill");
        howMany();
        steps();
        rises();
        aBadTimeEndsIt();
        aBadValueEndsIt();
        aBadValueByKindEndsIt();
        fullEndsIt();
        aLateOneEndsIt();
        aPastOneEndsIt();
        whichSeries();
        noneBeforeBad();
        end();
    }

    private static void howMany() {
        sentence("BAD: n not 1 .. 40");
        NumberRiver x = Scenes.with(WHOLE);
        due("n 1", x.fill(0, 0, 1, 5, 0, 1), 1);
        due("n 40", x.fill(0, 1, 1, 5, 0, 40), 40);
        due("41 main ones", x.about(0, 4), 41);
        due("the last time", x.block(0, 2, 2), 40);
        for (int n : new int[] {0, 41, -1, LOWEST, HIGHEST}) {
            changesNothing("n " + n, Scenes::rich, y -> y.fill(0, 500, 1, 0, 0, n), BAD);
        }
    }

    private static void steps() {
        sentence("step not 1 .. 10^6; TIMES time, time + step, ..");
        NumberRiver x = Scenes.with(WHOLE);
        due("step 1", x.fill(0, 0, 1, 0, 0, 3), 3);
        due("step 10^6", x.fill(0, 3, 1_000_000, 0, 0, 40), 40);
        due("the last time", x.block(0, 2, 2), 3 + 39_000_000);
        for (int step : new int[] {0, 1_000_001, -1, LOWEST, HIGHEST}) {
            changesNothing("step " + step, Scenes::rich, y -> y.fill(0, 500, step, 0, 0, 1), BAD);
            changesNothing("step " + step + ", n 2", Scenes::rich, y -> y.fill(0, 500, step, 0, 0, 2), BAD);
        }
    }

    private static void rises() {
        sentence("rise not -10^12 .. 10^12; VALUES value, value + rise, ..");
        NumberRiver x = Scenes.with(WHOLE);
        due("the greatest rise", x.fill(0, 0, 1, -TOP, TOP, 3), 3);
        due("the least rise", x.fill(0, 3, 1, TOP, -TOP, 3), 3);
        due("the third value", x.point(0, 0, 2, 1), TOP);
        due("the sixth value", x.point(0, 0, 5, 1), -TOP);
        for (long rise : new long[] {TOP + 1, -TOP - 1, Long.MAX_VALUE, Long.MIN_VALUE}) {
            changesNothing("rise " + rise, Scenes::rich, y -> y.fill(0, 500, 1, 0, rise, 1), BAD);
        }
    }

    private static void aBadTimeEndsIt() {
        sentence("(one that is BAD ends it likewise): TIMES 0 .. 10^9");
        due("40 up to the last time", Scenes.with(WHOLE).fill(0, LAST_TIME - 39, 1, 0, 0, 40), 40);
        NumberRiver x = Scenes.with(WHOLE);
        due("39 up to the last time", x.fill(0, LAST_TIME - 38, 1, 0, 0, 40), 39);
        due("39 main ones", x.about(0, 4), 39);
        due("the last of them", x.block(0, 2, 2), LAST_TIME);
        due("one, and a step too far", Scenes.with(WHOLE).fill(0, LAST_TIME, 1_000_000, 0, 0, 2), 1);
        for (int time : new int[] {-1, LAST_TIME + 1, LOWEST, HIGHEST}) {
            changesNothing("begun at " + time, Scenes::rich, y -> y.fill(0, time, 1, 0, 0, 40), 0);
        }
    }

    private static void aBadValueEndsIt() {
        sentence("(one that is BAD ends it likewise): VALUES -10^12 .. 10^12");
        NumberRiver x = Scenes.with(WHOLE);
        due("up to the greatest", x.fill(0, 0, 1, TOP - 2, 1, 40), 3);
        due("down to the least", x.fill(0, 3, 1, -TOP + 1, -1, 40), 2);
        due("five main ones", x.about(0, 4), 5);
        due("the greatest", x.head(0, 0, 1), TOP);
        due("the least", x.head(0, 0, 0), -TOP);
        due("the next time is free", x.put(0, 5, 0), 1);
        for (long v : new long[] {TOP + 1, -TOP - 1, Long.MAX_VALUE, Long.MIN_VALUE}) {
            changesNothing("begun with " + v, Scenes::rich, y -> y.fill(0, 500, 1, v, 0, 40), 0);
            changesNothing("begun with " + v + ", rising", Scenes::rich, y -> y.fill(0, 500, 1, v, TOP, 40), 0);
            changesNothing("begun with " + v + ", falling", Scenes::rich, y -> y.fill(0, 500, 1, v, -TOP, 40), 0);
        }
    }

    private static void aBadValueByKindEndsIt() {
        sentence("(one that is BAD ends it likewise): FLAG 0, 1; SUM not below 0");
        due("flags 0, 1, and not 2", Scenes.with(FLAG).fill(0, 0, 1, 0, 1, 40), 2);
        due("flags 1, 0, and not -1", Scenes.with(FLAG).fill(0, 0, 1, 1, -1, 40), 2);
        due("sums 2, 1, 0, and not -1", Scenes.with(SUM).fill(0, 0, 1, 2, -1, 40), 3);
        due("levels go below 0", Scenes.with(LEVEL).fill(0, 0, 1, 2, -1, 40), 40);
        changesNothing("a flag of 2", Scenes::rich, y -> y.fill(1, 5, 1, 2, -1, 3), 0);
        changesNothing("a sum of -1", Scenes::rich, y -> y.fill(3, 500, 1, -1, 1, 3), 0);
    }

    private static void fullEndsIt() {
        sentence("(one that is FULL ends it likewise): 300 MAIN, 40 LATE");
        NumberRiver x = Scenes.counted(WHOLE, 2, 261);
        due("39 more, and not 40", x.fill(0, 600, 1, 0, 0, 40), 39);
        due("300", x.about(0, 4), 300);
        NumberRiver y = Scenes.counted(WHOLE, 2, 260);
        due("40 more", y.fill(0, 600, 1, 0, 0, 40), 40);
        due("300, too", y.about(0, 4), 300);
        changesNothing("full of main ones", Scenes::fullOfMain, z -> z.fill(0, 700, 1, 0, 0, 40), 0);
        changesNothing("full of late ones", Scenes::fullOfLate, z -> z.fill(0, 81, 500, 0, 0, 40), 0);
    }

    private static void aLateOneEndsIt() {
        sentence("n POINTS are PUT, one behind the other, till one is not 1: how many were 1");
        NumberRiver x = Scenes.counted(WHOLE, 10, 3);
        due("begun at the last time", x.fill(0, 20, 1, 50, 1, 5), 0);
        due("that one is put, late", x.late(0, 0, 1), 50);
        due("no other is", x.about(0, 3) + x.about(0, 4), 4);
        due("begun there again", x.fill(0, 20, 1, 60, 1, 5), 0);
        due("it is put in place", x.late(0, 0, 1), 60);
        due("begun one behind", x.fill(0, 21, 1, 70, 1, 5), 5);
    }

    private static void aPastOneEndsIt() {
        sentence("till one is not 1");
        changesNothing("begun one below the end of the last span", Scenes::rich, x -> x.fill(0, 99, 1000, 0, 0, 5), 0);
        NumberRiver x = Scenes.counted(WHOLE, 10, 5);
        x.thin(0, 50, 50);
        due("no main point, one below the end", x.fill(0, 49, 1, 0, 0, 5), 0);
        due("nothing is put", x.about(0, 3) + x.about(0, 4), 0);
        due("no main point, at the end", x.fill(0, 50, 1, 0, 0, 5), 5);
    }

    private static void whichSeries() {
        sentence("NONE no such SERIES");
        due("the last series", Scenes.rich().fill(3, 391, 1, 0, 0, 2), 2);
        noSuchSeries((x, s) -> x.fill(s, 500, 1, 0, 0, 1), NONE);
    }

    private static void noneBeforeBad() {
        sentence("of several the first one told here: NONE, BAD");
        changesNothing("no series, n 0", Scenes::rich, x -> x.fill(4, 500, 1, 0, 0, 0), NONE);
        changesNothing("no series, step 0", Scenes::rich, x -> x.fill(4, 500, 0, 0, 0, 1), NONE);
        changesNothing("no series, no rise", Scenes::rich, x -> x.fill(4, 500, 1, 0, TOP + 1, 1), NONE);
        changesNothing("n 41 where the first is bad", Scenes::rich, x -> x.fill(0, -1, 1, 0, 0, 41), BAD);
        changesNothing("n 41 where it is full", Scenes::fullOfMain, x -> x.fill(0, 700, 1, 0, 0, 41), BAD);
    }
}
