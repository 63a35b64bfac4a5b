/** Promise 9, drop: what ends at t, what ends one above, torn or not. */
public final class Promise09DropTest extends Edges {
    public static void main(String[] args) {
        promise(9, "drop");
        endsOfSpans();
        lastTimesOfBlocks();
        tornBlocks();
        latePoints();
        nothingGoes();
        allGoes();
        anyTime();
        roomAgain();
        nothingOfATornBlockIsLeft();
        spansBehindTheDroppedOnes();
        whichSeries();
        end();
    }

    private static void endsOfSpans() {
        sentence("SPANS with END not above t go");
        changesNothing("one below the first end", () -> Scenes.windows(WHOLE), x -> x.drop(0, 99), 0);
        NumberRiver x = Scenes.windows(WHOLE);
        due("the first end", x.drop(0, 100), 1);
        due("the second is the first now", x.span(0, 0, 0), 100);
        due("one span", x.about(0, 2), 1);
        due("one below the second end", x.drop(0, 199), 0);
        due("times below the end are past", x.put(0, 199, 1), 0);
        due("the second end", x.drop(0, 200), 1);
        due("no span", x.about(0, 2), 0);
        due("they are past no more", x.put(0, 199, 1), 2);
        due("all blocks stay", x.about(0, 1), 3);
    }

    private static void lastTimesOfBlocks() {
        sentence("and BLOCKS with the last TIME below t");
        NumberRiver x = Scenes.windows(WHOLE);
        due("the first one's last time: spans alone", x.drop(0, 350), 2);
        due("all blocks", x.about(0, 1), 3);
        due("its points below t stay", x.point(0, 0, 0, 0), 200);
        due("one above its last time", x.drop(0, 351), 1);
        due("the next is the first now", x.block(0, 0, 1), 360);
        due("24 points", x.about(0, 4), 24);
        due("the second one's last time", x.drop(0, 510), 0);
        due("one above, and a half of the next", x.drop(0, 550), 1);
        due("that one stays whole", x.block(0, 0, 0), 8);
        due("its values too", x.point(0, 0, 0, 1), 52);
        due("the last time of all", x.drop(0, 590), 0);
        due("one above it", x.drop(0, 591), 1);
        due("no block", x.about(0, 1), 0);
    }

    private static void tornBlocks() {
        sentence("(TORN or not)");
        NumberRiver x = Scenes.counted(WHOLE, 10, 40);
        x.tear(0, 0, 0, 1);
        due("at its last time", x.drop(0, 150), 0);
        due("it is torn", x.about(0, 6), 1);
        due("one above", x.drop(0, 151), 1);
        due("none is torn", x.about(0, 6), 0);
        due("the next one's bytes are its own", x.point(0, 0, 0, 0), 160);
        NumberRiver y = Scenes.counted(WHOLE, 10, 40);
        y.tear(0, 1, 0, 1);
        due("one that is not torn ahead of a torn one", y.drop(0, 151), 1);
        due("that one is still torn", y.block(0, 0, 5), 1);
    }

    private static void latePoints() {
        sentence("and LATE POINTS below t: how many SPANS and BLOCKS went");
        NumberRiver x = Scenes.counted(WHOLE, 10, 40);
        x.put(0, 100, -1);
        x.put(0, 101, -2);
        x.put(0, 102, -3);
        due("late ones are not counted", x.drop(0, 101), 0);
        due("100 goes, 101 stays", x.late(0, 0, 0), 101);
        due("two", x.about(0, 3), 2);
        due("with its value", x.late(0, 0, 1), -2);
        due("the main one of its time is seen again", x.value(0, 100, 101, true), 10);
        due("one more goes", x.drop(0, 102), 0);
        due("102 stays", x.late(0, 0, 0), 102);
        due("the last goes", x.drop(0, 103), 0);
        due("none", x.about(0, 3), 0);
        due("no late point", x.late(0, 0, 0), NO);
    }

    private static void nothingGoes() {
        sentence("how many SPANS and BLOCKS went");
        changesNothing("of an empty series", () -> Scenes.with(WHOLE), x -> x.drop(0, LAST_TIME), 0);
        changesNothing("t 0", Scenes::rich, x -> x.drop(0, 0), 0);
        changesNothing("t -1", Scenes::rich, x -> x.drop(0, -1), 0);
        changesNothing("below the first end", Scenes::rich, x -> x.drop(0, 49), 0);
        due("time 0 is not below 0", timeZero().drop(0, 0), 0);
        due("it is below 1", timeZero().drop(0, 1), 1);
    }

    private static NumberRiver timeZero() {
        NumberRiver x = Scenes.with(WHOLE);
        x.put(0, 0, 1);
        return x;
    }

    private static void allGoes() {
        sentence("SPANS, BLOCKS and LATE POINTS go");
        NumberRiver x = Scenes.rich();
        due("two spans and two blocks", x.drop(0, 401), 4);
        for (int what = 1; what <= 6; what++) {
            due("about it, what " + what, x.about(0, what), 0);
        }
        due("the labels stay", x.label(0, 7, 15), 16);
        due("the kind stays", x.about(0, 0), WHOLE);
        due("the other series stay", x.about(3, 4), 40);
        due("a first point", x.put(0, 0, 1), 1);
        due("by 96 bits", x.about(0, 5), 96);
        due("nothing of the torn series went", x.about(3, 6), 1);
    }

    private static void anyTime() {
        sentence("NONE (no other refusal)");
        NumberRiver x = Scenes.with(WHOLE);
        x.put(0, LAST_TIME, 1);
        due("the lowest number", x.drop(0, LOWEST), 0);
        due("the last time", x.drop(0, LAST_TIME), 0);
        due("one above the last time", x.drop(0, LAST_TIME + 1), 1);
        x.put(0, LAST_TIME, 1);
        due("the highest number", x.drop(0, HIGHEST), 1);
    }

    private static void roomAgain() {
        sentence("300 MAIN, 40 LATE, 60 SPANS at most");
        NumberRiver x = Scenes.fullOfMain();
        due("16 points go", x.drop(0, 31), 1);
        due("room for 16", x.fill(0, 600, 1, 0, 0, 40), 16);
        NumberRiver y = Scenes.fullOfLate();
        y.drop(0, 4);
        due("two late ones go", y.about(0, 3), 38);
        due("room for one", y.put(0, 81, 0), 2);
        due("room for two", y.put(0, 83, 0), 2);
        due("and no more", y.put(0, 85, 0), FULL);
        NumberRiver z = Scenes.fullOfSpans();
        due("a span goes", z.drop(0, 1), 1);
        due("room for one", z.thin(0, 61, 1), 60);
        due("and no more", z.thin(0, 62, 1), FULL);
    }

    private static void nothingOfATornBlockIsLeft() {
        sentence("BLOCKS go (TORN or not)");
        NumberRiver x = Scenes.counted(WHOLE, 10, 16);
        x.tear(0, 0, 11, 255);
        due("the torn one", x.drop(0, 151), 1);
        due("a first point again", x.put(0, 5, 1), 1);
        due("its block is not torn", x.block(0, 0, 5), 0);
        due("its last byte", x.at(0, 0, 11), 1);
        due("its check", x.block(0, 0, 4), 6);
        due("its value", x.point(0, 0, 0, 1), 1);
        x.tear(0, 0, 11, 255);
        due("it can be torn", x.block(0, 0, 5), 1);
        x.tear(0, 0, 11, 255);
        due("and mended", x.block(0, 0, 5), 0);
    }

    private static void spansBehindTheDroppedOnes() {
        sentence("SPANS with END not above t go");
        NumberRiver x = Scenes.fullOfSpans();
        due("ten go", x.drop(0, 10), 10);
        due("ten come", x.thin(0, 70, 1), 60);
        for (int i = 0; i < 60; i++) {
            due("begin of " + i, x.span(0, i, 0), 10 + i);
            due("how many in " + i, x.span(0, i, 2), 1);
            due("sum of " + i, x.span(0, i, 3), 10 + i);
        }
    }

    private static void whichSeries() {
        sentence("NONE no such SERIES");
        due("the last series", Scenes.rich().drop(3, 151), 1);
        noSuchSeries((x, s) -> x.drop(s, 500), NONE);
    }
}
