import java.util.function.ToLongFunction;

/** Promise 25, scan: what the latest question that was not refused has looked at. */
public final class Promise25ScanTest extends Edges {
    public static void main(String[] args) {
        promise(25, "scan");
        zeroAtFirst();
        whats();
        refusedQuestions();
        callsThatAreNoQuestions();
        theLatest();
        answersOfNone();
        noSpansOfSome();
        tornAtTheEdge();
        tornOfEachQuestion();
        scannedWholly();
        tellingChangesNothing();
        end();
    }

    private static void zeroAtFirst() {
        sentence("(0 at first.)");
        dueScans("a new object", new NumberRiver(), 0, 0, 0);
        dueScans("points, and no question yet", Scenes.windows(WHOLE), 0, 0, 0);
    }

    private static void whats() {
        sentence("what 0 SCANNED, 1 SPANS that are CUT, 2 BLOCKS that are TORN. NONE: another what.");
        dueScans("a rich river", Scenes.rich(), 32, 1, 1);
        for (int what : new int[] {-1, 3, LOWEST, HIGHEST}) {
            changesNothing("what " + what, Scenes::rich, x -> x.scan(what), NONE);
            due("what " + what + " of a new object", new NumberRiver().scan(what), NONE);
        }
        changesNothing("what 0", Scenes::rich, x -> x.scan(0), 32);
    }

    /** The question is refused, and what was scanned before is still told. */
    private static void keeps(String what, ToLongFunction<NumberRiver> question, long want) {
        NumberRiver x = Scenes.rich();
        due(what, question.applyAsLong(x), want);
        dueScans("behind " + what, x, 32, 1, 1);
    }

    private static void refusedQuestions() {
        sentence("Of the latest question that was not refused");
        keeps("count of no series", x -> x.count(4, 0, 500), NONE);
        keeps("count of no window", x -> x.count(0, 5, 5), BAD);
        keeps("sum of no series", x -> x.sum(4, 0, 500), NO);
        keeps("sum of no window", x -> x.sum(0, -1, 5), NO);
        keeps("least of no series", x -> x.least(-1, 0, 500, false), NO);
        keeps("least of no window", x -> x.least(0, 5, 5, true), NO);
        keeps("rise of no series", x -> x.rise(4, 0, 500), NO);
        keeps("rise of no window", x -> x.rise(3, 5, 5), NO);
        keeps("rise of another kind", x -> x.rise(0, 0, 500), NO);
        keeps("level of no series", x -> x.level(4, 0, 500, 3), NO);
        keeps("level of no window", x -> x.level(2, 5, 5, 3), NO);
        keeps("level of another kind", x -> x.level(3, 0, 500, 3), NO);
        keeps("value of no series", x -> x.value(4, 0, 500, true), NO);
        keeps("value of no window", x -> x.value(0, 5, 5, true), NO);
        keeps("group of no key", x -> x.group(8, 0, 0, 500, 0), NO);
        keeps("group of no label", x -> x.group(0, 16, 0, 500, 0), NO);
        keeps("group of no window", x -> x.group(0, 0, 5, 5, 0), NO);
        keeps("group of no what", x -> x.group(0, 0, 0, 500, 2), NO);
    }

    private static void callsThatAreNoQuestions() {
        sentence("the latest question");
        keeps("series", x -> x.series(0), 4);
        keeps("label", x -> x.label(0, 0, 1), 1);
        keeps("match", x -> x.match(0, 0, -1, 0, 0), 0);
        keeps("put", x -> x.put(0, 500, 1), 1);
        keeps("fill", x -> x.fill(0, 500, 1, 1, 1, 40), 40);
        keeps("merge", x -> x.merge(0), 32);
        keeps("merge that is refused", x -> x.merge(3), STATE);
        keeps("thin", x -> x.thin(1, 2, 2), 1);
        keeps("drop", x -> x.drop(3, 500), 3);
        keeps("tear", x -> x.tear(3, 1, 0, 128), 0);
        keeps("cost", x -> x.cost(0, 1, 0), 96);
        keeps("point", x -> x.point(0, 1, 14, 0), 400);
        keeps("about", x -> x.about(-1, 0), 4);
    }

    private static void theLatest() {
        sentence("Of the latest question");
        NumberRiver x = Scenes.windows(LEVEL);
        x.count(0, 50, 201);
        dueScans("a count", x, 16, 1, 0);
        x.value(0, 0, 361, true);
        dueScans("then a value", x, 32, 0, 0);
        x.sum(0, 0, 200);
        dueScans("then a sum", x, 0, 0, 0);
        x.level(0, 0, 591, 1);
        dueScans("then a level", x, 40, 0, 0);
        x.least(0, 1, 199, true);
        dueScans("then a least", x, 0, 2, 0);
    }

    private static void answersOfNone() {
        sentence("question that was not refused (NO: there is none, too)");
        NumberRiver x = Scenes.rich();
        due("least of none", x.least(0, 101, 110, false), NO);
        dueScans("least of none", x, 16, 0, 0);
        due("value of none", x.value(0, 301, 310, true), NO);
        dueScans("value of none", x, 15, 0, 0);
        due("count of none", x.count(0, 500, 501), 0);
        dueScans("count of none", x, 0, 0, 0);
    }

    private static void noSpansOfSome() {
        sentence("1 SPANS that are CUT (0 of rise, level, value)");
        for (int kind : new int[] {LEVEL, SUM}) {
            NumberRiver x = Scenes.windows(kind);
            x.count(0, 50, 150);
            dueScans("count", x, 0, 2, 0);
            x.value(0, 50, 150, true);
            dueScans("value", x, 0, 0, 0);
            x.count(0, 50, 150);
            due("rise or level", kind == SUM ? x.rise(0, 50, 150) : x.level(0, 50, 150, 1), 0);
            dueScans("rise or level", x, 0, 0, 0);
        }
    }

    /** Blocks 0 .. 150, 160 .. 310 (torn), 320 .. 470. */
    private static NumberRiver tornInTheMiddle(int kind) {
        NumberRiver x = Scenes.counted(kind, 10, 48);
        x.tear(0, 1, 0, 1);
        return x;
    }

    private static void tornAtTheEdge() {
        sentence("2 BLOCKS that are TORN and have some TIME, first to last, in the WINDOW");
        NumberRiver x = tornInTheMiddle(WHOLE);
        int[][] windows = {{151, 160}, {151, 161}, {160, 161}, {310, 311}, {310, 320}, {311, 320}, {161, 162}, {0, 160}, {0, 471}};
        int[] torn = {0, 1, 1, 1, 1, 0, 1, 0, 1};
        for (int i = 0; i < windows.length; i++) {
            int a = windows[i][0];
            int b = windows[i][1];
            x.count(0, a, b);
            due("count " + a + " .. " + (b - 1), x.scan(2), torn[i]);
            x.value(0, a, b, true);
            due("value " + a + " .. " + (b - 1), x.scan(2), torn[i]);
        }
        x.count(0, 0, 471);
        dueScans("torn ones are not scanned", x, 0, 0, 1);
    }

    private static void tornOfEachQuestion() {
        sentence("2 BLOCKS that are TORN");
        NumberRiver x = tornInTheMiddle(SUM);
        x.sum(0, 300, 330);
        dueScans("sum", x, 16, 0, 1);
        x.least(0, 300, 330, true);
        dueScans("least", x, 16, 0, 1);
        x.rise(0, 300, 330);
        dueScans("rise", x, 16, 0, 1);
        x.value(0, 300, 330, false);
        dueScans("value", x, 16, 0, 1);
        NumberRiver y = tornInTheMiddle(LEVEL);
        y.level(0, 310, 330, 1);
        dueScans("level, its last time at a", y, 32, 0, 1);
        y.level(0, 311, 330, 1);
        dueScans("level, its last time one below a", y, 32, 0, 0);
        y.level(0, 0, 160, 1);
        dueScans("level, its first time at b", y, 16, 0, 0);
        y.level(0, 0, 161, 1);
        dueScans("level, its first time one below b", y, 16, 0, 1);
        y.tear(0, 1, 0, 1);
        y.level(0, 0, 161, 1);
        dueScans("mended", y, 32, 0, 0);
    }

    private static void scannedWholly() {
        sentence("SCANNED are all POINTS of BLOCKS that are unpacked so.");
        NumberRiver x = Scenes.counted(WHOLE, 10, 17);
        x.count(0, 0, 1);
        dueScans("one of 16", x, 16, 0, 0);
        x.count(0, 160, 161);
        dueScans("one of one, by its head", x, 0, 0, 0);
        x.value(0, 160, 161, true);
        dueScans("one of one, unpacked", x, 1, 0, 0);
        x.put(0, 155, 1);
        x.put(0, 0, 1);
        x.count(0, 0, 161);
        dueScans("late ones are not scanned", x, 16, 0, 0);
        x.value(0, 155, 156, true);
        dueScans("a late one alone", x, 0, 0, 0);
        NumberRiver y = Scenes.fullOfMain();
        y.value(0, 0, 599, true);
        dueScans("300", y, 300, 0, 0);
    }

    private static void tellingChangesNothing() {
        sentence("Nothing is promised beyond the answers and state changes described above");
        changesNothing("scanned", Scenes::rich, x -> x.scan(0), 32);
        changesNothing("cut", Scenes::rich, x -> x.scan(1), 1);
        changesNothing("torn", Scenes::rich, x -> x.scan(2), 1);
    }
}
