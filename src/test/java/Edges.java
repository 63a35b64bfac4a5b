import java.util.List;
import java.util.function.Supplier;
import java.util.function.ToLongFunction;

/**
 * What the tests of the promises' edges share: answers are compared with the ones that are due,
 * and calls that must change nothing are shown to change nothing.
 */
abstract class Edges {
    static final int NONE = -1, BAD = -2, STATE = -4, FULL = -5;
    static final long NO = Long.MIN_VALUE;
    static final int WHOLE = 0, FLAG = 1, LEVEL = 2, SUM = 3;
    static final int LOWEST = Integer.MIN_VALUE, HIGHEST = Integer.MAX_VALUE;
    static final int LAST_TIME = 1_000_000_000;
    static final long TOP = 1_000_000_000_000L;

    private static String promise = "";
    private static String sentence = "";
    private static int asked = 0;
    private static int wrong = 0;

    static void promise(int number, String name) {
        promise = "promise " + number + ", " + name;
    }

    /** The document's words to which the checks that follow belong. */
    static void sentence(String words) {
        sentence = words;
    }

    static void due(String what, long got, long want) {
        asked++;
        if (got != want) {
            tellWrong(what + " answered " + got + ", due is " + want);
        }
    }

    /** The bits of a block behind its first point, as text; spaces are for the eye alone. */
    static void dueBits(String what, NumberRiver x, int block, String want) {
        asked++;
        String bits = want.replace(" ", "");
        String padded = bits + "0".repeat((8 - bits.length() % 8) % 8);
        StringBuilder got = new StringBuilder();
        for (int k = 12; x.at(0, block, k) != NONE; k++) {
            got.append(Integer.toBinaryString(256 + x.at(0, block, k)).substring(1));
        }
        if (!got.toString().equals(padded)) {
            tellWrong(what + ": the bits are " + got + ", due are " + padded);
        }
        due(what + ", how many bits", x.block(0, block, 6), 96 + bits.length());
    }

    /** The call answers as is due, and all that later calls tell is as if it had not been. */
    static void changesNothing(String what, Supplier<NumberRiver> scene, ToLongFunction<NumberRiver> call, long want) {
        due(what, call.applyAsLong(scene.get()), want);
        List<String> without = Watch.of(scene);
        List<String> with = Watch.of(() -> {
            NumberRiver x = scene.get();
            call.applyAsLong(x);
            return x;
        });
        asked++;
        for (int i = 0; i < Math.max(without.size(), with.size()); i++) {
            String before = i < without.size() ? without.get(i) : "nothing";
            String after = i < with.size() ? with.get(i) : "nothing";
            if (!before.equals(after)) {
                tellWrong(what + " changed something: " + after + ", but without it " + before);
                return;
            }
        }
    }

    interface OfSeries {
        long ask(NumberRiver x, int series);
    }

    /** The rich river has series 0 .. 3; a call about any other one is refused. */
    static void noSuchSeries(OfSeries call, long want) {
        for (int s : new int[] {-1, 4, LOWEST, HIGHEST}) {
            changesNothing("series " + s, Scenes::rich, x -> call.ask(x, s), want);
        }
    }

    interface OfWindow {
        long ask(NumberRiver x, int a, int b);
    }

    /** a below 0, or b not above a: a question about such a window is refused. */
    static void noSuchWindow(OfWindow question, long want) {
        int[][] bad = {{-1, 500}, {LOWEST, 500}, {-1, -1}, {-2, -1}, {5, 5}, {5, 4}, {0, 0}, {0, -1},
            {HIGHEST, HIGHEST}, {HIGHEST, LOWEST}, {LOWEST, HIGHEST}, {5, LOWEST}};
        for (int[] w : bad) {
            changesNothing("a " + w[0] + ", b " + w[1], Scenes::rich, x -> question.ask(x, w[0], w[1]), want);
        }
    }

    /** Two ways that must lead to the same river. */
    static void same(String what, Supplier<NumberRiver> one, Supplier<NumberRiver> other) {
        asked++;
        if (!Watch.of(one).equals(Watch.of(other))) {
            tellWrong(what + ": the two are not the same");
        }
    }

    /** The rich river was asked something last; asked that again, it is as if it had not been asked this. */
    static void leavesOnlyItsScan(String what, ToLongFunction<NumberRiver> question) {
        same(what + " leaves something behind", Scenes::rich, () -> {
            NumberRiver x = Scenes.rich();
            question.applyAsLong(x);
            Scenes.askLast(x);
            return x;
        });
    }

    /** What the latest question scanned, which spans it cut, which torn blocks it met. */
    static void dueScans(String what, NumberRiver x, int scanned, int cut, int torn) {
        due(what + ", scan(0)", x.scan(0), scanned);
        due(what + ", scan(1)", x.scan(1), cut);
        due(what + ", scan(2)", x.scan(2), torn);
    }

    private static void tellWrong(String what) {
        wrong++;
        System.out.println(promise + ": \"" + sentence + "\": " + what);
    }

    static void end() {
        System.out.println(promise + ": " + asked + " checks, " + wrong + " wrong");
        if (wrong != 0 || asked == 0) {
            System.exit(1);
        }
    }
}
