/** Promise 13, tear: masks 0 .. 255, which bytes there are, and how long a block is torn. */
public final class Promise13TearTest extends Edges {
    public static void main(String[] args) {
        promise(13, "tear");
        masks();
        whichByte();
        whichBlock();
        whichSeries();
        noneBeforeBad();
        tornAsLongAs();
        bitsBehindTheLast();
        eachByte();
        whatATornBlockKeeps();
        mendedIsAsBefore();
        end();
    }

    private static void masks() {
        sentence("The BITS of a BYTE that mask has become the other ones; BAD: mask not 0 .. 255");
        NumberRiver x = Scenes.with(WHOLE);
        x.put(0, 0x0F, 1);
        due("mask 0", x.tear(0, 0, 3, 0), 0x0F);
        due("mask 0 tears nothing", x.block(0, 0, 5), 0);
        due("mask 255", x.tear(0, 0, 3, 255), 0xF0);
        due("mask 1", x.tear(0, 0, 3, 1), 0xF1);
        due("mask 128", x.tear(0, 0, 3, 128), 0x71);
        due("as at() tells", x.at(0, 0, 3), 0x71);
        for (int mask : new int[] {-1, 256, LOWEST, HIGHEST}) {
            changesNothing("mask " + mask, Scenes::rich, y -> y.tear(0, 0, 3, mask), BAD);
            changesNothing("mask " + mask + " on a torn one", Scenes::rich, y -> y.tear(3, 1, 0, mask), BAD);
        }
        changesNothing("mask 0", Scenes::rich, y -> y.tear(0, 0, 3, 0), 100);
    }

    private static void whichByte() {
        sentence("NONE no such BYTE");
        NumberRiver x = Scenes.with(WHOLE);
        x.put(0, 0, 9);
        due("byte 11, the last", x.tear(0, 0, 11, 1), 8);
        due("back", x.tear(0, 0, 11, 1), 9);
        due("byte 12", x.tear(0, 0, 12, 1), NONE);
        x.put(0, 1, 9);
        due("byte 13 of more bits", x.tear(0, 0, 13, 1), 1);
        due("byte 14", x.tear(0, 0, 14, 1), NONE);
        for (int k : new int[] {-1, LOWEST, HIGHEST}) {
            changesNothing("byte " + k, Scenes::rich, y -> y.tear(0, 0, k, 1), NONE);
        }
        changesNothing("one behind the last", Scenes::rich, y -> y.tear(0, 1, y.block(0, 1, 3), 1), NONE);
    }

    private static void whichBlock() {
        sentence("NONE no such BLOCK");
        due("the last", Scenes.counted(WHOLE, 10, 17).tear(0, 1, 0, 1), 1);
        for (int i : new int[] {-1, 2, LOWEST, HIGHEST}) {
            changesNothing("block " + i, Scenes::rich, x -> x.tear(0, i, 0, 1), NONE);
        }
        changesNothing("of an empty series", () -> Scenes.with(WHOLE), x -> x.tear(0, 0, 0, 1), NONE);
    }

    private static void whichSeries() {
        sentence("NONE no such SERIES");
        due("the last series", Scenes.rich().tear(3, 0, 0, 1), 1);
        noSuchSeries((x, s) -> x.tear(s, 0, 0, 1), NONE);
    }

    private static void noneBeforeBad() {
        sentence("of several the first one told here: NONE, BAD");
        changesNothing("no series, no mask", Scenes::rich, x -> x.tear(4, 0, 0, 256), NONE);
        changesNothing("no block, no mask", Scenes::rich, x -> x.tear(0, 2, 0, -1), NONE);
        changesNothing("no byte, no mask", Scenes::rich, x -> x.tear(0, 0, 999, 256), NONE);
    }

    private static void tornAsLongAs() {
        sentence("It is TORN as long as one of its BYTES is another than it was made.");
        NumberRiver x = Scenes.counted(WHOLE, 10, 3);
        x.tear(0, 0, 0, 3);
        due("torn", x.block(0, 0, 5), 1);
        x.tear(0, 0, 0, 1);
        due("half of it back", x.block(0, 0, 5), 1);
        x.tear(0, 0, 0, 2);
        due("all of it back", x.block(0, 0, 5), 0);
        x.tear(0, 0, 0, 1);
        x.tear(0, 0, 1, 1);
        due("two bytes", x.block(0, 0, 5), 1);
        x.tear(0, 0, 0, 1);
        due("one of two back", x.block(0, 0, 5), 1);
        due("one block is torn", x.about(0, 6), 1);
        x.tear(0, 0, 1, 1);
        due("both back", x.block(0, 0, 5), 0);
        due("no block is torn", x.about(0, 6), 0);
        x.tear(0, 0, 0, 128);
        x.tear(0, 0, 1, 128);
        due("torn, though the sum of the bytes modulo 256 is as it was", x.block(0, 0, 5), 1);
    }

    private static void bitsBehindTheLast() {
        sentence("one of its BYTES is another; with 0s behind the last one");
        NumberRiver x = Scenes.with(WHOLE);
        x.put(0, 0, 4);
        x.put(0, 1, 4);
        due("a 0 behind the last bit", x.tear(0, 0, 13, 1), 1);
        due("tears it, too", x.block(0, 0, 5), 1);
        due("no point is told", x.point(0, 0, 0, 0), NO);
        due("back", x.tear(0, 0, 13, 1), 0);
        due("torn no more", x.block(0, 0, 5), 0);
        due("the next point is put there", x.put(0, 2, 4), 1);
        dueBits("as if never torn", x, 0, "10 1000000 0  0 0");
    }

    private static void eachByte() {
        sentence("as long as one of its BYTES is another");
        NumberRiver x = Scenes.counted(WHOLE, 10, 16);
        int bytes = x.block(0, 0, 3);
        for (int k = 0; k < bytes; k++) {
            int made = x.at(0, 0, k);
            due("byte " + k, x.tear(0, 0, k, 16), made ^ 16);
            due("torn", x.block(0, 0, 5), 1);
            due("byte " + k + " back", x.tear(0, 0, k, 16), made);
            due("torn no more", x.block(0, 0, 5), 0);
        }
    }

    private static void whatATornBlockKeeps() {
        sentence("(of a TORN one as many, and from such a first to such a last TIME, as its HEAD tells)");
        NumberRiver x = Scenes.counted(WHOLE, 10, 20);
        x.tear(0, 1, 3, 255);
        due("main points", x.about(0, 4), 20);
        due("its points", x.block(0, 1, 0), 4);
        due("its first time", x.block(0, 1, 1), 160);
        due("its last time", x.block(0, 1, 2), 190);
        due("a point of its last time is late", x.put(0, 190, 0), 2);
        due("one behind is main", x.put(0, 191, 0), 1);
        due("of a new block", x.block(0, 2, 1), 191);
    }

    private static void mendedIsAsBefore() {
        sentence("The BITS of a BYTE that mask has become the other ones");
        changesNothing("torn and mended", Scenes::rich, x -> {
            x.tear(2, 0, 7, 77);
            x.tear(2, 0, 9, 255);
            x.tear(2, 0, 9, 255);
            return x.tear(2, 0, 7, 77);
        }, 0);
    }
}
