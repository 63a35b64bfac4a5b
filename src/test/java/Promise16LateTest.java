/** Promise 16, late: 40 late points, rising. */
public final class Promise16LateTest extends Edges {
    public static void main(String[] args) {
        promise(16, "late");
        whats();
        whichPoint();
        fortyAtMost();
        rising();
        inPlace();
        extremes();
        whichSeries();
        tellingChangesNothing();
        end();
    }

    private static void whats() {
        sentence("what 0 its TIME, 1 its VALUE. NO.");
        NumberRiver x = Scenes.rich();
        due("what 0", x.late(2, 0, 0), 50);
        due("what 1", x.late(2, 0, 1), -3);
        for (int what : new int[] {-1, 2, LOWEST, HIGHEST}) {
            changesNothing("what " + what, Scenes::rich, y -> y.late(0, 0, what), NO);
        }
    }

    private static void whichPoint() {
        sentence("LATE POINT k. NO.");
        NumberRiver x = Scenes.rich();
        due("late 0", x.late(0, 0, 0), 100);
        due("late 1, the last", x.late(0, 1, 0), 255);
        for (int k : new int[] {-1, 2, LOWEST, HIGHEST}) {
            changesNothing("late " + k, Scenes::rich, y -> y.late(0, k, 0), NO);
        }
        due("of a series without any", x.late(1, 0, 0), NO);
        due("of an empty series", Scenes.with(WHOLE).late(0, 0, 0), NO);
        x.merge(0);
        due("merged", x.late(0, 0, 0), NO);
        due("of another series they stay", x.late(2, 0, 0), 50);
    }

    private static void fortyAtMost() {
        sentence("LATE POINTS, rising, 40 at most");
        NumberRiver x = Scenes.fullOfLate();
        for (int k = 0; k < 40; k++) {
            due("time of " + k, x.late(0, k, 0), 2 * k + 1);
            due("value of " + k, x.late(0, k, 1), -2 * k - 1);
        }
        due("late 40", x.late(0, 40, 0), NO);
        due("the 41st is refused", x.put(0, 0, 5), FULL);
        due("late 0 is as it was", x.late(0, 0, 0), 1);
        due("late 39 is as it was", x.late(0, 39, 0), 79);
        due("late 40 is none", x.late(0, 40, 0), NO);
    }

    private static void rising() {
        sentence("LATE POINTS, rising");
        NumberRiver x = Scenes.counted(WHOLE, 10, 20);
        int[] put = {100, 50, 150, 51, 49, 190, 0};
        for (int k = 0; k < put.length; k++) {
            due("put " + put[k], x.put(0, put[k], k), 2);
        }
        int[] times = {0, 49, 50, 51, 100, 150, 190};
        int[] values = {6, 4, 1, 3, 0, 2, 5};
        for (int k = 0; k < times.length; k++) {
            due("time of " + k, x.late(0, k, 0), times[k]);
            due("value of " + k, x.late(0, k, 1), values[k]);
        }
    }

    private static void inPlace() {
        sentence("in place of a LATE one with that TIME");
        NumberRiver x = Scenes.counted(WHOLE, 10, 20);
        x.put(0, 50, 1);
        x.put(0, 60, 2);
        x.put(0, 70, 3);
        due("the one in the middle", x.put(0, 60, 9), 3);
        due("ahead of it", x.late(0, 0, 1), 1);
        due("in place", x.late(0, 1, 1), 9);
        due("behind it", x.late(0, 2, 1), 3);
        due("three", x.late(0, 3, 0), NO);
    }

    private static void extremes() {
        sentence("a TIME, 0 .. 10^9, and a VALUE, -10^12 .. 10^12");
        NumberRiver x = Scenes.with(WHOLE);
        x.put(0, LAST_TIME, 0);
        x.put(0, LAST_TIME, TOP);
        x.put(0, 0, -TOP);
        due("the first time", x.late(0, 0, 0), 0);
        due("the least value", x.late(0, 0, 1), -TOP);
        due("the last time", x.late(0, 1, 0), LAST_TIME);
        due("the greatest value", x.late(0, 1, 1), TOP);
    }

    private static void whichSeries() {
        sentence("NO: no such SERIES");
        NumberRiver x = Scenes.rich();
        x.put(3, 0, 5);
        due("the last series", x.late(3, 0, 1), 5);
        noSuchSeries((y, s) -> y.late(s, 0, 0), NO);
    }

    private static void tellingChangesNothing() {
        sentence("Nothing is promised beyond the answers and state changes described above");
        changesNothing("a time", Scenes::rich, x -> x.late(0, 1, 0), 255);
        changesNothing("a value", Scenes::rich, x -> x.late(2, 0, 1), -3);
    }
}
