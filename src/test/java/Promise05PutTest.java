/** Promise 5, put: which point is main, late or past, and which is none at all. */
public final class Promise05PutTest extends Edges {
    public static void main(String[] args) {
        promise(5, "put");
        times();
        values();
        valuesOfFlag();
        valuesOfSum();
        valuesOfLevel();
        aboveTheLastMainPoint();
        noMainPoint();
        theLastTimeOfAll();
        endOfTheLastSpan();
        endOfTheLastSpanAlone();
        pastIsNotPut();
        sixteenInABlock();
        besideATornBlock();
        aMendedBlock();
        inPlaceOfALateOne();
        threeHundredMain();
        threeHundredWithTornOnes();
        fortyLate();
        whichSeries();
        orderOfRefusals();
        end();
    }

    private static void times() {
        sentence("A POINT has a TIME, 0 .. 10^9; BAD: time");
        for (int kind = 0; kind <= 3; kind++) {
            NumberRiver x = Scenes.with(kind);
            due("time 0 of kind " + kind, x.put(0, 0, 1), 1);
            due("the last time of kind " + kind, x.put(0, LAST_TIME, 1), 1);
            due("it is kept", x.point(0, 0, 1, 0), LAST_TIME);
        }
        for (int time : new int[] {-1, LAST_TIME + 1, LOWEST, HIGHEST}) {
            for (int s = 0; s < 4; s++) {
                int series = s;
                changesNothing("time " + time + " in series " + s, Scenes::rich, x -> x.put(series, time, 1), BAD);
            }
        }
    }

    private static void values() {
        sentence("and a VALUE, a whole number, -10^12 .. 10^12; BAD: value");
        NumberRiver x = Scenes.with(WHOLE);
        due("the greatest", x.put(0, 1, TOP), 1);
        due("the least", x.put(0, 2, -TOP), 1);
        due("the greatest, late", x.put(0, 2, TOP), 2);
        due("the least, late in place", x.put(0, 2, -TOP), 3);
        due("the greatest is kept", x.point(0, 0, 0, 1), TOP);
        due("the least is kept", x.point(0, 0, 1, 1), -TOP);
        for (long v : new long[] {TOP + 1, -TOP - 1, Long.MAX_VALUE, Long.MIN_VALUE}) {
            changesNothing("value " + v, Scenes::rich, y -> y.put(0, 500, v), BAD);
            changesNothing("value " + v + ", late", Scenes::rich, y -> y.put(0, 101, v), BAD);
            changesNothing("value " + v + ", late in place", Scenes::rich, y -> y.put(0, 255, v), BAD);
            changesNothing("value " + v + ", past", Scenes::rich, y -> y.put(0, 99, v), BAD);
        }
    }

    private static void valuesOfFlag() {
        sentence("1 FLAG: VALUES 0, 1; BAD: (by KIND) value");
        NumberRiver x = Scenes.with(FLAG);
        due("0", x.put(0, 1, 0), 1);
        due("1", x.put(0, 2, 1), 1);
        for (long v : new long[] {-1, 2, TOP, -TOP, TOP + 1, Long.MIN_VALUE}) {
            changesNothing("value " + v, Scenes::rich, y -> y.put(1, 5, v), BAD);
            changesNothing("value " + v + ", late", Scenes::rich, y -> y.put(1, 0, v), BAD);
        }
    }

    private static void valuesOfSum() {
        sentence("3 SUM: VALUES not below 0; BAD: (by KIND) value");
        NumberRiver x = Scenes.with(SUM);
        due("0", x.put(0, 1, 0), 1);
        due("the greatest", x.put(0, 2, TOP), 1);
        for (long v : new long[] {-1, -TOP, TOP + 1, -TOP - 1}) {
            changesNothing("value " + v, Scenes::rich, y -> y.put(3, 500, v), BAD);
            changesNothing("value " + v + ", late", Scenes::rich, y -> y.put(3, 0, v), BAD);
        }
    }

    private static void valuesOfLevel() {
        sentence("2 LEVEL; a VALUE, a whole number, -10^12 .. 10^12");
        NumberRiver x = Scenes.with(LEVEL);
        due("the least", x.put(0, 1, -TOP), 1);
        due("the greatest", x.put(0, 2, TOP), 1);
        changesNothing("above", Scenes::rich, y -> y.put(2, 500, TOP + 1), BAD);
        changesNothing("below", Scenes::rich, y -> y.put(2, 500, -TOP - 1), BAD);
    }

    private static void aboveTheLastMainPoint() {
        sentence("if its TIME is above that of the last MAIN POINT");
        due("one below it", Scenes.counted(WHOLE, 10, 3).put(0, 19, 5), 2);
        due("its own time", Scenes.counted(WHOLE, 10, 3).put(0, 20, 5), 2);
        due("one above it", Scenes.counted(WHOLE, 10, 3).put(0, 21, 5), 1);
        NumberRiver x = Scenes.counted(WHOLE, 10, 3);
        x.put(0, 20, 5);
        due("a late one of its time is no main one", x.block(0, 0, 0), 3);
        due("nor is its value", x.point(0, 0, 2, 1), 2);
        due("above the late one too", x.put(0, 21, 6), 1);
        due("the main one is the last", x.block(0, 0, 2), 21);
        due("and is not above itself", x.put(0, 21, 7), 2);
    }

    private static void noMainPoint() {
        sentence("(or there is none)");
        due("time 0", Scenes.with(WHOLE).put(0, 0, 0), 1);
        due("the last time", Scenes.with(WHOLE).put(0, LAST_TIME, 0), 1);
        NumberRiver x = Scenes.counted(WHOLE, 10, 40);
        due("all dropped", x.drop(0, 391), 3);
        due("time 0 again", x.put(0, 0, 4), 1);
        due("it is the only one", x.about(0, 4), 1);
    }

    private static void theLastTimeOfAll() {
        sentence("above that of the last MAIN POINT; a TIME, 0 .. 10^9");
        NumberRiver x = Scenes.with(WHOLE);
        due("one before the last time", x.put(0, LAST_TIME - 1, 0), 1);
        due("the last time", x.put(0, LAST_TIME, 0), 1);
        due("the last time again", x.put(0, LAST_TIME, 1), 2);
        due("and again", x.put(0, LAST_TIME, 2), 3);
    }

    private static void endOfTheLastSpan() {
        sentence("and not below the END of the last SPAN; else, if it is not below the END of the last SPAN, it is LATE; else it is PAST");
        due("at the end, late", Scenes.windows(WHOLE).put(0, 200, -1), 2);
        due("behind the end, late", Scenes.windows(WHOLE).put(0, 201, -1), 2);
        changesNothing("one below the end", () -> Scenes.windows(WHOLE), x -> x.put(0, 199, -1), 0);
        changesNothing("in the first span", () -> Scenes.windows(WHOLE), x -> x.put(0, 99, -1), 0);
        changesNothing("time 0", () -> Scenes.windows(WHOLE), x -> x.put(0, 0, -1), 0);
        NumberRiver x = Scenes.windows(WHOLE);
        x.drop(0, 200);
        due("the span is gone: late, not past", x.put(0, 199, -1), 2);
        due("time 0, too", x.put(0, 0, -1), 2);
    }

    /** One span, 0 .. 49, and nothing behind it. */
    private static NumberRiver spanAlone() {
        NumberRiver x = Scenes.counted(WHOLE, 10, 5);
        x.thin(0, 100, 50);
        return x;
    }

    private static void endOfTheLastSpanAlone() {
        sentence("(or there is none), and not below the END of the last SPAN");
        due("no main points", spanAlone().about(0, 4), 0);
        due("at the end", spanAlone().put(0, 50, 1), 1);
        changesNothing("one below the end", Promise05PutTest::spanAlone, x -> x.put(0, 49, 1), 0);
        NumberRiver x = spanAlone();
        x.put(0, 50, 1);
        due("at the end again", x.put(0, 50, 2), 2);
        due("one below it again", x.put(0, 49, 2), 0);
    }

    private static void pastIsNotPut() {
        sentence("Else it is PAST and is not put.");
        changesNothing("past", Scenes::rich, x -> x.put(0, 99, 1), 0);
        changesNothing("past, at time 0", Scenes::rich, x -> x.put(0, 0, 1), 0);
        due("at the end of the last span", Scenes.rich().put(0, 100, 1), 3);
    }

    private static void sixteenInABlock() {
        sentence("of the last BLOCK, if that has less than 16, else of a new one");
        NumberRiver x = Scenes.counted(WHOLE, 10, 15);
        due("15 in one", x.block(0, 0, 0), 15);
        due("the 16th", x.put(0, 150, 15), 1);
        due("is in it", x.block(0, 0, 0), 16);
        due("one block", x.about(0, 1), 1);
        due("the 17th", x.put(0, 160, 16), 1);
        due("makes another", x.about(0, 1), 2);
        due("with one point", x.block(0, 1, 0), 1);
        due("the first keeps 16", x.block(0, 0, 0), 16);
        due("and its last time", x.block(0, 0, 2), 150);
    }

    private static void besideATornBlock() {
        sentence("and is not TORN, else of a new one; (of a TORN one as many, and from such a first to such a last TIME, as its HEAD tells)");
        NumberRiver x = Scenes.counted(WHOLE, 10, 3);
        x.tear(0, 0, 0, 64);
        due("not above the torn one's last time", x.put(0, 20, 5), 2);
        due("above it", x.put(0, 21, 6), 1);
        due("in a block of its own", x.about(0, 1), 2);
        due("the torn one has as many", x.block(0, 0, 0), 3);
        due("the new one has one", x.block(0, 1, 0), 1);
        due("the next goes there", x.put(0, 22, 7), 1);
        due("two", x.block(0, 1, 0), 2);
    }

    private static void aMendedBlock() {
        sentence("It is TORN as long as one of its BYTES is another than it was made.");
        NumberRiver x = Scenes.counted(WHOLE, 10, 3);
        x.tear(0, 0, 0, 64);
        x.tear(0, 0, 0, 64);
        due("mended, it takes a point", x.put(0, 30, 3), 1);
        due("in the same block", x.block(0, 0, 0), 4);
        due("which is told as ever", x.block(0, 0, 6), Scenes.counted(WHOLE, 10, 4).block(0, 0, 6));
        NumberRiver y = Scenes.counted(WHOLE, 10, 3);
        y.tear(0, 0, 5, 0);
        due("not torn by mask 0", y.put(0, 30, 3), 1);
        due("in the same block", y.about(0, 1), 1);
        NumberRiver z = Scenes.counted(WHOLE, 10, 3);
        z.tear(0, 0, 0, 64);
        z.put(0, 30, 3);
        z.tear(0, 0, 0, 64);
        due("mended, but not the last", z.put(0, 40, 4), 1);
        due("it keeps three", z.block(0, 0, 0), 3);
    }

    private static void inPlaceOfALateOne() {
        sentence("it is LATE, in place of a LATE one with that TIME");
        NumberRiver x = Scenes.counted(WHOLE, 10, 3);
        due("of a main one's time", x.put(0, 10, 50), 2);
        due("of the late one's time", x.put(0, 10, 60), 3);
        due("one below", x.put(0, 9, 70), 2);
        due("one above", x.put(0, 11, 80), 2);
        due("three late ones", x.about(0, 3), 3);
        due("the value in place", x.late(0, 1, 1), 60);
        due("the main one stays", x.point(0, 0, 1, 1), 1);
    }

    private static void threeHundredMain() {
        sentence("its MAIN POINTS at most 300; FULL: 300 MAIN");
        NumberRiver x = Scenes.counted(WHOLE, 2, 299);
        due("the 300th", x.put(0, 598, 299), 1);
        due("300", x.about(0, 4), 300);
        changesNothing("the 301st", Scenes::fullOfMain, y -> y.put(0, 599, 1), FULL);
        changesNothing("the 301st, at the last time", Scenes::fullOfMain, y -> y.put(0, LAST_TIME, 1), FULL);
        due("a late one still", x.put(0, 598, 1), 2);
        due("a late one in place", x.put(0, 598, 2), 3);
        due("a block dropped", x.drop(0, 31), 1);
        for (int k = 0; k < 16; k++) {
            due("room for one", x.put(0, 600 + k, k), 1);
        }
        due("and no more", x.put(0, 616, 0), FULL);
    }

    private static void threeHundredWithTornOnes() {
        sentence("at most 300 (of a TORN one as many as its HEAD tells)");
        NumberRiver x = Scenes.counted(WHOLE, 2, 299);
        x.tear(0, 0, 0, 1);
        x.tear(0, 18, 0, 1);
        due("the 300th, in a block of its own", x.put(0, 598, 1), 1);
        due("the 301st", x.put(0, 599, 1), FULL);
        due("300", x.about(0, 4), 300);
        due("20 blocks", x.about(0, 1), 20);
    }

    private static void fortyLate() {
        sentence("LATE POINTS, rising, 40 at most; FULL: 40 LATE");
        NumberRiver x = Scenes.counted(WHOLE, 2, 100);
        for (int k = 0; k < 40; k++) {
            due("late one " + k, x.put(0, 79 - 2 * k, -1), 2);
        }
        due("40", x.about(0, 3), 40);
        changesNothing("the 41st, behind", Scenes::fullOfLate, y -> y.put(0, 81, 1), FULL);
        changesNothing("the 41st, ahead", Scenes::fullOfLate, y -> y.put(0, 0, 1), FULL);
        changesNothing("the 41st, of the last main time", Scenes::fullOfLate, y -> y.put(0, 198, 1), FULL);
        due("the first in place", x.put(0, 1, 5), 3);
        due("the last in place", x.put(0, 79, 6), 3);
        due("a main one still", x.put(0, 199, 7), 1);
        due("still 40", x.about(0, 3), 40);
        x.drop(0, 2);
        due("room for one", x.put(0, 81, 8), 2);
        due("and no more", x.put(0, 83, 8), FULL);
    }

    private static void whichSeries() {
        sentence("NONE no such SERIES");
        due("the last series", Scenes.rich().put(3, 391, 0), 1);
        noSuchSeries((x, s) -> x.put(s, 500, 1), NONE);
    }

    /** A span 0 .. 9, main times 10 .. 309 and 40 late ones: full of both. */
    private static NumberRiver fullOfAll() {
        NumberRiver x = Scenes.counted(WHOLE, 1, 300);
        x.thin(0, 10, 10);
        x.fill(0, 300, 1, 0, 0, 10);
        for (int time = 10; time < 50; time++) {
            x.put(0, time, 1);
        }
        return x;
    }

    private static void orderOfRefusals() {
        sentence("of several the first one told here: NONE, BAD, FULL");
        changesNothing("no series, no time", Scenes::rich, x -> x.put(4, -1, 0), NONE);
        changesNothing("no series, no value", Scenes::rich, x -> x.put(-1, 0, TOP + 1), NONE);
        changesNothing("full of main ones, no value", Promise05PutTest::fullOfAll, x -> x.put(0, 310, TOP + 1), BAD);
        changesNothing("full of main ones, no time", Promise05PutTest::fullOfAll, x -> x.put(0, LAST_TIME + 1, 0), BAD);
        changesNothing("full of late ones, no value", Promise05PutTest::fullOfAll, x -> x.put(0, 60, -TOP - 1), BAD);
        changesNothing("full of main ones", Promise05PutTest::fullOfAll, x -> x.put(0, 310, 0), FULL);
        changesNothing("full of late ones", Promise05PutTest::fullOfAll, x -> x.put(0, 50, 0), FULL);
        changesNothing("past, though full", Promise05PutTest::fullOfAll, x -> x.put(0, 9, 0), 0);
    }
}
