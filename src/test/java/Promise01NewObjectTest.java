import java.util.function.ToLongFunction;

/** Promise 1, a new object: not even series 0 is there, and no call about it changes that. */
public final class Promise01NewObjectTest extends Edges {
    public static void main(String[] args) {
        promise(1, "a new object");
        noSeries();
        callsThatWriteFindNone();
        callsThatReadFindNone();
        questionsFindNone();
        objectsAreApart();
        constants();
        fiveHundredAndTwelveCalls();
        end();
    }

    private static void noSeries() {
        sentence("No SERIES.");
        NumberRiver x = new NumberRiver();
        due("how many", x.about(-1, 0), 0);
        due("the first one more", x.series(0), 0);
        due("how many then", x.about(-1, 0), 1);
        due("the next is not there", x.about(1, 0), NONE);
    }

    private static void onNew(String what, ToLongFunction<NumberRiver> call, long want) {
        changesNothing(what + " on a new object", NumberRiver::new, call, want);
    }

    private static void callsThatWriteFindNone() {
        sentence("No SERIES.");
        onNew("label", x -> x.label(0, 0, 0), NONE);
        onNew("put", x -> x.put(0, 0, 0), NONE);
        onNew("fill", x -> x.fill(0, 0, 1, 0, 0, 1), NONE);
        onNew("merge", x -> x.merge(0), NONE);
        onNew("thin", x -> x.thin(0, 0, 1), NONE);
        onNew("drop", x -> x.drop(0, 0), NONE);
        onNew("tear", x -> x.tear(0, 0, 0, 1), NONE);
    }

    private static void callsThatReadFindNone() {
        sentence("No SERIES.");
        onNew("match", x -> x.match(0, 0, -1, 0, 0), NONE);
        onNew("match of no label", x -> x.match(0, -1, -1, 0, 0), NONE);
        onNew("block", x -> x.block(0, 0, 0), NONE);
        onNew("head", x -> x.head(0, 0, 0), NO);
        onNew("at", x -> x.at(0, 0, 0), NONE);
        onNew("cost", x -> x.cost(0, 0, 0), NONE);
        onNew("point", x -> x.point(0, 0, 0, 0), NO);
        onNew("late", x -> x.late(0, 0, 0), NO);
        onNew("span", x -> x.span(0, 0, 0), NO);
        onNew("about", x -> x.about(0, 0), NONE);
    }

    private static void questionsFindNone() {
        sentence("No SERIES.");
        onNew("count", x -> x.count(0, 0, 1), NONE);
        onNew("sum", x -> x.sum(0, 0, 1), NO);
        onNew("least", x -> x.least(0, 0, 1, false), NO);
        onNew("most", x -> x.least(0, 0, 1, true), NO);
        onNew("rise", x -> x.rise(0, 0, 1), NO);
        onNew("level", x -> x.level(0, 0, 1, 0), NO);
        onNew("value", x -> x.value(0, 0, 1, false), NO);
        onNew("group counts over none", x -> x.group(0, 0, 0, 1, 0), 0);
        onNew("group sums over none", x -> x.group(0, 0, 0, 1, 1), 0);
    }

    private static void objectsAreApart() {
        sentence("No SERIES.");
        NumberRiver full = Scenes.rich();
        NumberRiver x = new NumberRiver();
        due("how many beside a full object", x.about(-1, 0), 0);
        dueScans("beside a full object", x, 0, 0, 0);
        x.series(1);
        due("the full one keeps its own", full.about(-1, 0), 4);
        due("and their kinds", full.about(0, 0), WHOLE);
    }

    private static void constants() {
        sentence("NONE = -1, BAD = -2, KIND = -3, STATE = -4, FULL = -5; NO = Long.MIN_VALUE");
        due("NONE", NumberRiver.NONE, -1);
        due("BAD", NumberRiver.BAD, -2);
        due("KIND", NumberRiver.KIND, -3);
        due("STATE", NumberRiver.STATE, -4);
        due("FULL", NumberRiver.FULL, -5);
        due("NO", NumberRiver.NO, Long.MIN_VALUE);
    }

    /** A river as full as it gets, and the object's last calls: 8 x (1 + 1 + 8 + 40) + 110 + 2 = 512. */
    private static void fiveHundredAndTwelveCalls() {
        sentence("An object is used for at most 512 calls after it has been made");
        NumberRiver x = new NumberRiver();
        for (int s = 0; s < 8; s++) {
            due("call " + (50 * s + 1), x.series(WHOLE), s);
            due("call " + (50 * s + 2), x.label(s, 7, 15), 0);
            for (int done = 0; done < 300; done += 40) {
                int n = Math.min(40, 300 - done);
                due("filling series " + s, x.fill(s, 2 * done, 2, 1, 0, n), n);
            }
            for (int k = 39; k >= 0; k--) {
                due("late in series " + s, x.put(s, 2 * k, 5), 2);
            }
        }
        for (int k = 0; k < 55; k++) {
            due("torn", x.tear(k % 8, k % 19, 11, 255), 254);
            due("mended", x.tear(k % 8, k % 19, 11, 255), 1);
        }
        due("call 511", x.merge(7), 300);
        due("call 512", x.group(7, 15, 0, HIGHEST, 1), 8 * (260 + 40 * 5));
    }
}
