/** Promise 3, label: keys 0 .. 7, values 0 .. 15, -1 for none. */
public final class Promise03LabelTest extends Edges {
    public static void main(String[] args) {
        promise(3, "label");
        keys();
        values();
        noneAtAll();
        atMostOne();
        whichSeries();
        noneBeforeBad();
        end();
    }

    private static void keys() {
        sentence("for each KEY 0 .. 7; BAD: key");
        NumberRiver x = Scenes.with(WHOLE);
        due("key 0", x.label(0, 0, 5), 0);
        due("key 7", x.label(0, 7, 6), 0);
        due("key 0 has it", x.label(0, 0, 5), 6);
        due("key 7 has it", x.label(0, 7, 6), 7);
        for (int key : new int[] {-1, 8, LOWEST, HIGHEST}) {
            changesNothing("key " + key, Scenes::rich, y -> y.label(0, key, 1), BAD);
            changesNothing("none of key " + key, Scenes::rich, y -> y.label(0, key, -1), BAD);
        }
    }

    private static void values() {
        sentence("at most one VALUE 0 .. 15; BAD: v");
        NumberRiver x = Scenes.with(WHOLE);
        due("value 0", x.label(0, 3, 0), 0);
        due("value 0 was, and 1", x.label(0, 3, 15), 1);
        due("value 15 was, and 1", x.label(0, 3, 15), 16);
        due("value 15 is matched", x.match(3, 15, -1, 0, 0), 0);
        for (int v : new int[] {-2, 16, LOWEST, HIGHEST}) {
            changesNothing("value " + v, Scenes::rich, y -> y.label(0, 0, v), BAD);
        }
    }

    private static void noneAtAll() {
        sentence("v (-1: it has none): what it was, and 1 (0: none)");
        NumberRiver x = Scenes.with(WHOLE);
        due("none, of none", x.label(0, 0, -1), 0);
        due("none was", x.label(0, 0, 0), 0);
        due("0 was", x.label(0, 0, -1), 1);
        due("none was again", x.label(0, 0, -1), 0);
        due("it is not matched", x.match(0, 0, -1, 0, 0), NONE);
    }

    private static void atMostOne() {
        sentence("at most one VALUE for each KEY");
        NumberRiver x = Scenes.with(WHOLE, WHOLE);
        x.label(0, 2, 3);
        x.label(0, 2, 4);
        due("the first one is gone", x.match(2, 3, -1, 0, 0), NONE);
        due("the second one is there", x.match(2, 4, -1, 0, 0), 0);
        due("not of another key", x.match(3, 4, -1, 0, 0), NONE);
        due("not of another series", x.label(1, 2, -1), 0);
    }

    private static void whichSeries() {
        sentence("NONE no such SERIES");
        due("the last series", Scenes.rich().label(3, 1, 1), 0);
        noSuchSeries((x, s) -> x.label(s, 0, 1), NONE);
        due("series 7 of eight", Scenes.with(0, 0, 0, 0, 0, 0, 0, 0).label(7, 0, 0), 0);
        changesNothing("series 8 of eight", () -> Scenes.with(0, 0, 0, 0, 0, 0, 0, 0), x -> x.label(8, 0, 0), NONE);
    }

    private static void noneBeforeBad() {
        sentence("of several the first one told here: NONE, BAD");
        changesNothing("no series, no key", Scenes::rich, x -> x.label(4, 8, 1), NONE);
        changesNothing("no series, no value", Scenes::rich, x -> x.label(-1, 0, 16), NONE);
    }
}
