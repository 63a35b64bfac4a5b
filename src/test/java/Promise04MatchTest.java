import java.util.function.ToLongFunction;

/** Promise 4, match: which i, keys and values find a series, and which find none. */
public final class Promise04MatchTest extends Edges {
    public static void main(String[] args) {
        promise(4, "match");
        fromZeroOn();
        eightSeries();
        keys();
        values();
        otherFromZeroOn();
        otherValues();
        changeNothing();
        end();
    }

    /** Series 1, 2 and 4 of five have label 5 of key 2; 2 and 4 have 0 and 15 of keys 0 and 7. */
    private static NumberRiver labelled() {
        NumberRiver x = Scenes.with(0, 1, 2, 3, 0);
        for (int s : new int[] {4, 1, 2}) {
            x.label(s, 2, 5);
        }
        x.label(2, 0, 0);
        x.label(4, 0, 0);
        x.label(2, 7, 15);
        x.label(4, 7, 15);
        return x;
    }

    private static void none(String what, ToLongFunction<NumberRiver> call) {
        changesNothing(what, Promise04MatchTest::labelled, call, NONE);
    }

    private static void fromZeroOn() {
        sentence("The i-th SERIES, by numbers, from 0 on; NONE");
        NumberRiver x = labelled();
        due("i 0", x.match(2, 5, -1, 0, 0), 1);
        due("i 1", x.match(2, 5, -1, 0, 1), 2);
        due("i 2, the last", x.match(2, 5, -1, 0, 2), 4);
        none("i 3", y -> y.match(2, 5, -1, 0, 3));
        none("i -1", y -> y.match(2, 5, -1, 0, -1));
        none("i lowest", y -> y.match(2, 5, -1, 0, LOWEST));
        none("i highest", y -> y.match(2, 5, -1, 0, HIGHEST));
    }

    private static void eightSeries() {
        sentence("8 at most");
        NumberRiver x = Scenes.with(0, 0, 0, 0, 0, 0, 0, 0);
        for (int s = 0; s < 8; s++) {
            x.label(s, 1, 1);
        }
        due("i 7 of eight", x.match(1, 1, -1, 0, 7), 7);
        due("i 8 of eight", x.match(1, 1, -1, 0, 8), NONE);
    }

    private static void keys() {
        sentence("KEY 0 .. 7; NONE");
        NumberRiver x = labelled();
        due("key 0", x.match(0, 0, -1, 0, 0), 2);
        due("key 7", x.match(7, 15, -1, 0, 1), 4);
        for (int key : new int[] {-1, 8, LOWEST, HIGHEST}) {
            for (int v : new int[] {-1, 0, 5}) {
                none("key " + key + ", value " + v, y -> y.match(key, v, -1, 0, 0));
            }
        }
    }

    private static void values() {
        sentence("that has LABEL v of a KEY");
        NumberRiver x = labelled();
        due("value 0", x.match(0, 0, -1, 0, 1), 4);
        due("value 15", x.match(7, 15, -1, 0, 0), 2);
        none("value 14, that none has", y -> y.match(7, 14, -1, 0, 0));
        none("value 16", y -> y.match(7, 16, -1, 0, 0));
        none("having none is no label", y -> y.match(7, -1, -1, 0, 0));
        none("value -2", y -> y.match(7, -2, -1, 0, 0));
    }

    private static void otherFromZeroOn() {
        sentence("and (other from 0 on) w of that other KEY");
        NumberRiver x = labelled();
        due("other -1 is not asked", x.match(2, 5, -1, 9, 0), 1);
        due("other lowest is not asked", x.match(2, 5, LOWEST, 9, 0), 1);
        due("other 0 is asked", x.match(2, 5, 0, 0, 0), 2);
        due("other 0, i 1", x.match(2, 5, 0, 0, 1), 4);
        none("other 0, i 2", y -> y.match(2, 5, 0, 0, 2));
        due("other 7 is asked", x.match(2, 5, 7, 15, 1), 4);
        none("other 8 is no key", y -> y.match(2, 5, 8, 0, 0));
        none("other highest is no key", y -> y.match(2, 5, HIGHEST, 0, 0));
        due("the same key twice", x.match(2, 5, 2, 5, 0), 1);
        none("the same key, another value", y -> y.match(2, 5, 2, 4, 0));
    }

    private static void otherValues() {
        sentence("w of that other KEY");
        NumberRiver x = labelled();
        due("w 15", x.match(2, 5, 7, 15, 0), 2);
        none("w 16", y -> y.match(2, 5, 7, 16, 0));
        due("w 0", x.match(2, 5, 0, 0, 0), 2);
        none("having none is no label", y -> y.match(2, 5, 0, -1, 0));
        none("w alone is not enough", y -> y.match(2, 6, 0, 0, 0));
    }

    private static void changeNothing() {
        sentence("They change nothing.");
        changesNothing("a match that is found", Scenes::rich, x -> x.match(0, 0, -1, 0, 1), 3);
        changesNothing("a match of two keys", Scenes::rich, x -> x.match(0, 0, 7, 15, 0), 0);
        changesNothing("no such i", Scenes::rich, x -> x.match(0, 0, -1, 0, 2), NONE);
        changesNothing("no such key", Scenes::rich, x -> x.match(8, 0, -1, 0, 0), NONE);
        changesNothing("no such other key", Scenes::rich, x -> x.match(0, 0, 8, 0, 0), NONE);
        changesNothing("one that is found", Scenes::rich, x -> x.match(0, 0, -1, 0, 1), 3);
    }
}
