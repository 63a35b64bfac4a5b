/** Promise 10, block: which numbers it tells, CHECK modulo 256, whole bytes. */
public final class Promise10BlockTest extends Edges {
    public static void main(String[] args) {
        promise(10, "block");
        whats();
        whichBlock();
        whichSeries();
        firstAndLastTimes();
        wholeBytes();
        checkModulo256();
        byItsHead();
        tornOrNot();
        inTheOrderOfTimes();
        tellingChangesNothing();
        end();
    }

    private static void whats() {
        sentence("what 0 .. 6; NONE");
        NumberRiver x = Scenes.counted(WHOLE, 10, 1);
        long[] want = {1, 0, 0, 12, 0, 0, 96};
        for (int what = 0; what <= 6; what++) {
            due("what " + what, x.block(0, 0, what), want[what]);
        }
        for (int what : new int[] {-1, 7, LOWEST, HIGHEST}) {
            changesNothing("what " + what, Scenes::rich, y -> y.block(0, 0, what), NONE);
        }
    }

    private static void whichBlock() {
        sentence("NONE no such BLOCK");
        NumberRiver x = Scenes.counted(WHOLE, 10, 33);
        due("the first", x.block(0, 0, 1), 0);
        due("the last", x.block(0, 2, 1), 320);
        for (int i : new int[] {-1, 2, LOWEST, HIGHEST}) {
            changesNothing("block " + i, Scenes::rich, y -> y.block(0, i, 0), NONE);
        }
        due("of an empty series", Scenes.with(WHOLE).block(0, 0, 0), NONE);
        x.drop(0, 151);
        due("one went: the last", x.block(0, 1, 1), 320);
        due("one went: one behind the last", x.block(0, 2, 0), NONE);
        NumberRiver y = Scenes.fullOfMain();
        due("the 19th of 300 points", y.block(0, 18, 0), 12);
        due("no 20th", y.block(0, 19, 0), NONE);
    }

    private static void whichSeries() {
        sentence("NONE no such SERIES");
        due("the last series", Scenes.rich().block(3, 0, 0), 16);
        noSuchSeries((x, s) -> x.block(s, 0, 0), NONE);
    }

    private static void firstAndLastTimes() {
        sentence("1 its first TIME, 2 its last one; TIME, 0 .. 10^9");
        NumberRiver x = Scenes.with(WHOLE);
        x.put(0, 0, 1);
        due("the first", x.block(0, 0, 1), 0);
        due("one point: the last is the first", x.block(0, 0, 2), 0);
        x.put(0, LAST_TIME, 1);
        due("the first stays", x.block(0, 0, 1), 0);
        due("the last", x.block(0, 0, 2), LAST_TIME);
        x.put(0, 5, 1);
        x.put(0, LAST_TIME, 2);
        due("late ones are not in it", x.block(0, 0, 0), 2);
    }

    private static void wholeBytes() {
        sentence("with 0s behind the last one up to a whole BYTE: 3 how many BYTES, 6 how many BITS");
        // The second point costs 10, each next one 2.
        int[] bits = {96, 106, 108, 110, 112, 114, 116, 118, 120, 122};
        int[] bytes = {12, 14, 14, 14, 14, 15, 15, 15, 15, 16};
        NumberRiver x = Scenes.with(WHOLE);
        for (int k = 0; k < bits.length; k++) {
            x.put(0, k, 3);
            due("bits of " + (k + 1), x.block(0, 0, 6), bits[k]);
            due("bytes of " + (k + 1), x.block(0, 0, 3), bytes[k]);
        }
    }

    private static int checkOf(int time, long value) {
        NumberRiver x = Scenes.with(WHOLE);
        x.put(0, time, value);
        return x.block(0, 0, 4);
    }

    private static void checkModulo256() {
        sentence("the CHECK: the sum of its BYTES as they were made, modulo 256");
        due("nothing but 0s", checkOf(0, 0), 0);
        due("254", checkOf(254, 0), 254);
        due("255", checkOf(254, 1), 255);
        due("256", checkOf(255, 1), 0);
        due("257", checkOf(255, 2), 1);
        due("eight of 255", checkOf(0, -1), 8 * 255 % 256);
        due("more than nine of 255", checkOf(0x3B9AC9FF, -1), (0x3B + 0x9A + 0xC9 + 0xFF + 8 * 255) % 256);
    }

    private static void byItsHead() {
        sentence("(By its HEAD; BYTES, BITS as they were made.)");
        NumberRiver x = Scenes.counted(WHOLE, 10, 16);
        int[] before = new int[7];
        for (int what = 0; what < 7; what++) {
            before[what] = x.block(0, 0, what);
        }
        for (int k = 0; k < before[3]; k++) {
            x.tear(0, 0, k, 255);
        }
        for (int what = 0; what < 7; what++) {
            due("torn in each byte, what " + what, x.block(0, 0, what), what == 5 ? 1 : before[what]);
        }
    }

    private static void tornOrNot() {
        sentence("5 whether it is TORN (1, 0)");
        NumberRiver x = Scenes.rich();
        due("not torn", x.block(3, 0, 5), 0);
        due("torn", x.block(3, 1, 5), 1);
        due("the next is not", x.block(3, 2, 5), 0);
        due("mended", x.tear(3, 1, 0, 128) - x.at(3, 1, 0), 0);
        due("torn no more", x.block(3, 1, 5), 0);
    }

    private static void risingBlocks(String when, NumberRiver x) {
        int before = (int) Math.max(-1, x.span(0, x.about(0, 2) - 1, 1) - 1);
        for (int i = 0; i < x.about(0, 1); i++) {
            due(when + ": block " + i + " begins above " + before, x.block(0, i, 1) > before ? 1 : 0, 1);
            due(when + ": block " + i + " ends not below its first", x.block(0, i, 2) >= x.block(0, i, 1) ? 1 : 0, 1);
            before = x.block(0, i, 2);
        }
    }

    private static void inTheOrderOfTimes() {
        sentence("A SERIES has SPANS, BLOCKS, both in the order of TIMES, SPANS ahead of BLOCKS");
        NumberRiver x = Scenes.counted(WHOLE, 10, 80);
        risingBlocks("put", x);
        for (int time = 785; time > 500; time -= 10) {
            x.put(0, time, 1);
        }
        x.put(0, 790, 2);
        risingBlocks("with late ones", x);
        due("merged", x.merge(0), 80 + 29);
        risingBlocks("merged", x);
        due("thinned", x.thin(0, 200, 50), 4);
        risingBlocks("thinned", x);
        due("dropped", x.drop(0, 400), 5);
        risingBlocks("dropped", x);
        due("and one more", x.put(0, 791, 3), 1);
        risingBlocks("put again", x);
        due("the last is in the last block", x.block(0, x.about(0, 1) - 1, 2), 791);
    }

    private static void tellingChangesNothing() {
        sentence("Nothing is promised beyond the answers and state changes described above");
        changesNothing("how many in a torn block", Scenes::rich, x -> x.block(3, 1, 0), 16);
        changesNothing("the first time of a torn block", Scenes::rich, x -> x.block(3, 1, 1), 160);
        changesNothing("whether it is torn", Scenes::rich, x -> x.block(3, 1, 5), 1);
        changesNothing("of a block with late points in it", Scenes::rich, x -> x.block(0, 0, 2), 250);
    }
}
