/** Promise 2, series: kinds 0 .. 3, eight series at most. */
public final class Promise02SeriesTest extends Edges {
    public static void main(String[] args) {
        promise(2, "series");
        kinds();
        eightAtMost();
        badBeforeFull();
        numbersFromZeroOn();
        withoutLabels();
        withoutPoints();
        end();
    }

    private static NumberRiver eight() {
        return Scenes.with(0, 1, 2, 3, 0, 1, 2, 3);
    }

    private static void kinds() {
        sentence("each has a KIND (0 WHOLE, 1 FLAG, 2 LEVEL, 3 SUM); BAD: kind");
        for (int kind = 0; kind <= 3; kind++) {
            NumberRiver x = new NumberRiver();
            due("kind " + kind, x.series(kind), 0);
            due("it has kind " + kind, x.about(0, 0), kind);
        }
        for (int kind : new int[] {-1, 4, LOWEST, HIGHEST}) {
            changesNothing("kind " + kind + " on a new object", NumberRiver::new, x -> x.series(kind), BAD);
            changesNothing("kind " + kind, Scenes::rich, x -> x.series(kind), BAD);
        }
    }

    private static void eightAtMost() {
        sentence("SERIES are numbered from 0 on, 8 at most; FULL");
        NumberRiver x = Scenes.with(0, 1, 2, 3, 0, 1, 2);
        due("the eighth", x.series(3), 7);
        due("it is there", x.about(7, 0), SUM);
        due("it takes a point", x.put(7, 0, 0), 1);
        due("the ninth is not", x.about(8, 0), NONE);
        for (int kind = 0; kind <= 3; kind++) {
            int k = kind;
            changesNothing("a ninth of kind " + k, Promise02SeriesTest::eight, y -> y.series(k), FULL);
        }
        due("the ninth takes no point", eight().put(8, 0, 0), NONE);
    }

    private static void badBeforeFull() {
        sentence("of several the first one told here: BAD, FULL");
        changesNothing("a ninth of kind 4", Promise02SeriesTest::eight, x -> x.series(4), BAD);
        changesNothing("a ninth of kind -1", Promise02SeriesTest::eight, x -> x.series(-1), BAD);
    }

    private static void numbersFromZeroOn() {
        sentence("One SERIES more: its number");
        NumberRiver x = new NumberRiver();
        for (int n = 0; n < 8; n++) {
            due("refused in between", x.series(4), BAD);
            due("number " + n, x.series(n % 4), n);
            due("how many", x.about(-1, 0), n + 1);
        }
    }

    private static void withoutLabels() {
        sentence("without LABELS");
        NumberRiver x = Scenes.with(WHOLE);
        for (int key = 0; key < 8; key++) {
            x.label(0, key, key + 8);
        }
        due("another one", x.series(WHOLE), 1);
        for (int key = 0; key < 8; key++) {
            due("it is not matched by key " + key, x.match(key, key + 8, -1, 0, 1), NONE);
            due("its label of key " + key, x.label(1, key, -1), 0);
        }
    }

    private static void withoutPoints() {
        sentence("One SERIES more");
        NumberRiver x = Scenes.rich();
        due("another one", x.series(LEVEL), 4);
        for (int what = 1; what <= 6; what++) {
            due("about it, what " + what, x.about(4, what), 0);
        }
    }
}
