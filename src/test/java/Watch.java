import java.util.ArrayList;
import java.util.List;
import java.util.function.Supplier;

/**
 * All that calls can tell of a river, line by line. An object is good for 512 calls, so the
 * river is made anew, by the same calls, as soon as a page of calls is used up.
 */
final class Watch {
    private static final int PAGE = 200;
    private final Supplier<NumberRiver> maker;
    private final List<String> lines = new ArrayList<>();
    private NumberRiver river = null;
    private int used = 0;

    private Watch(Supplier<NumberRiver> maker) {
        this.maker = maker;
    }

    static List<String> of(Supplier<NumberRiver> maker) {
        Watch w = new Watch(maker);
        w.tellScan();
        int series = (int) w.tell("series", w.river().about(-1, 0));
        for (int s = 0; s < series; s++) {
            w.tellSeries(s);
        }
        for (int s = 0; s < series; s++) {
            w.tellLabels(s);
        }
        for (int s = 0; s < series; s++) {
            w.goOn(s);
        }
        w.river = null;
        w.tell("one series more", w.river().series(3));
        return w.lines;
    }

    private NumberRiver river() {
        if (river == null || used >= PAGE) {
            river = maker.get();
            used = 0;
        }
        used++;
        return river;
    }

    private long tell(String what, long answer) {
        lines.add(what + " is " + answer);
        return answer;
    }

    private void tellScan() {
        for (int what = 0; what < 3; what++) {
            tell("scan " + what, river().scan(what));
        }
    }

    private void tellSeries(int s) {
        String name = "series " + s;
        for (int what = 0; what < 7; what++) {
            tell(name + " about " + what, river().about(s, what));
        }
        int blocks = river().about(s, 1);
        for (int i = 0; i < blocks; i++) {
            tellBlock(s, i);
        }
        int spans = river().about(s, 2);
        for (int i = 0; i < spans; i++) {
            for (int what = 0; what < 8; what++) {
                tell(name + " span " + i + " what " + what, river().span(s, i, what));
            }
        }
        int late = river().about(s, 3);
        for (int k = 0; k < late; k++) {
            tell(name + " late time " + k, river().late(s, k, 0));
            tell(name + " late value " + k, river().late(s, k, 1));
        }
    }

    private void tellBlock(int s, int i) {
        String name = "series " + s + " block " + i;
        for (int what = 0; what < 7; what++) {
            tell(name + " what " + what, river().block(s, i, what));
        }
        for (int what = 0; what < 3; what++) {
            tell(name + " head " + what, river().head(s, i, what));
        }
        int bytes = river().block(s, i, 3);
        for (int k = 0; k < bytes; k++) {
            tell(name + " byte " + k, river().at(s, i, k));
        }
        int points = river().block(s, i, 0);
        for (int k = 0; k < points; k++) {
            tell(name + " cost " + k, river().cost(s, i, k));
            tell(name + " time " + k, river().point(s, i, k, 0));
            tell(name + " value " + k, river().point(s, i, k, 1));
        }
    }

    /** Takes the labels away, one by one, each told as it goes. */
    private void tellLabels(int s) {
        for (int key = 0; key < 8; key++) {
            tell("series " + s + " label of " + key, river().label(s, key, -1));
        }
    }

    /** What only later calls bring to light: where the next points go, and how they are told. */
    private void goOn(int s) {
        NumberRiver x = maker.get();
        String name = "series " + s + " going on, ";
        int last = Math.max(0, x.block(s, x.about(s, 1) - 1, 2));
        tell(name + "all", x.count(s, 0, Integer.MAX_VALUE));
        tell(name + "a late one", x.put(s, last, 1));
        tell(name + "a next one", x.put(s, last + 1, 1));
        tell(name + "another", x.put(s, last + 9, 0));
        tell(name + "many", x.fill(s, last + 20, 2, 0, 0, 20));
        tell(name + "count", x.count(s, 0, Integer.MAX_VALUE));
        tell(name + "sum", x.sum(s, 0, Integer.MAX_VALUE));
        tell(name + "least", x.least(s, 0, last + 5, false));
        tell(name + "most", x.least(s, 0, last + 5, true));
        tell(name + "first", x.value(s, 0, last + 5, false));
        tell(name + "last", x.value(s, 0, last + 5, true));
        tell(name + "rise", x.rise(s, 0, last + 30));
        tell(name + "level", x.level(s, 0, last + 30, 1));
        for (int i = 0; i < x.about(s, 1); i++) {
            tell(name + "bits of block " + i, x.block(s, i, 6));
            tell(name + "check of block " + i, x.block(s, i, 4));
        }
        tell(name + "merged", x.merge(s));
        tell(name + "bits", x.about(s, 5));
        tell(name + "dropped", x.drop(s, last));
        tell(name + "thinned", x.thin(s, 0, 1));
    }
}
