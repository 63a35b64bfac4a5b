/** Promise 12, at: the bytes of a block, and the bits that they tell at each edge. */
public final class Promise12AtTest extends Edges {
    public static void main(String[] args) {
        promise(12, "at");
        whichByte();
        whichBlock();
        whichSeries();
        zeroTo255();
        theFirstPoint();
        zerosBehindTheLastBit();
        changesOfStepUp();
        changesOfStepDown();
        theSameStep();
        widestChanges();
        noChangeOfValue();
        framesAtTheirLimits();
        withinTheFrame();
        outsideTheFrame();
        tellingChangesNothing();
        end();
    }

    private static void whichByte() {
        sentence("BYTE k of a BLOCK. NONE.");
        NumberRiver x = Scenes.with(WHOLE);
        x.put(0, 0x01020304, 9);
        due("byte 0", x.at(0, 0, 0), 1);
        due("byte 11, the last", x.at(0, 0, 11), 9);
        due("byte 12", x.at(0, 0, 12), NONE);
        for (int k : new int[] {-1, LOWEST, HIGHEST}) {
            changesNothing("byte " + k, Scenes::rich, y -> y.at(0, 0, k), NONE);
        }
        x.put(0, 0x01020305, 9);
        due("106 bits: byte 13", x.at(0, 0, 13), 0);
        due("106 bits: byte 14", x.at(0, 0, 14), NONE);
        changesNothing("one behind the last", Scenes::rich, y -> y.at(0, 0, y.block(0, 0, 3)), NONE);
    }

    private static void whichBlock() {
        sentence("NONE no such BLOCK");
        NumberRiver x = Scenes.counted(WHOLE, 10, 17);
        due("the last", x.at(0, 1, 3), 160);
        for (int i : new int[] {-1, 2, LOWEST, HIGHEST}) {
            changesNothing("block " + i, Scenes::rich, y -> y.at(0, i, 0), NONE);
        }
    }

    private static void whichSeries() {
        sentence("NONE no such SERIES");
        due("the last series", Scenes.rich().at(3, 2, 3), 320 - 256);
        noSuchSeries((x, s) -> x.at(s, 0, 0), NONE);
    }

    private static void zeroTo255() {
        sentence("0 .. 255");
        NumberRiver x = Scenes.with(WHOLE);
        x.put(0, 0, -1);
        due("0", x.at(0, 0, 0), 0);
        due("255", x.at(0, 0, 4), 255);
        x.tear(0, 0, 0, 255);
        x.tear(0, 0, 4, 255);
        due("torn, as it is now: 255", x.at(0, 0, 0), 255);
        due("torn, as it is now: 0", x.at(0, 0, 4), 0);
    }

    /** The bytes of a block of one point. */
    private static void dueFirst(int time, long value, int... want) {
        NumberRiver x = Scenes.with(WHOLE);
        x.put(0, time, value);
        for (int k = 0; k < 12; k++) {
            due("time " + time + ", value " + value + ", byte " + k, x.at(0, 0, k), want[k]);
        }
        due("time " + time + ", value " + value + ", byte 12", x.at(0, 0, 12), NONE);
    }

    private static void theFirstPoint() {
        sentence("The first POINT: its TIME by 32 BITS, its VALUE by 64 (two's complement), the highest first");
        dueFirst(0, 0, 0, 0, 0, 0, 0, 0, 0, 0, 0, 0, 0, 0);
        dueFirst(LAST_TIME, TOP, 0x3B, 0x9A, 0xCA, 0x00, 0, 0, 0, 0xE8, 0xD4, 0xA5, 0x10, 0x00);
        dueFirst(1, -TOP, 0, 0, 0, 1, 255, 255, 255, 0x17, 0x2B, 0x5A, 0xF0, 0x00);
        dueFirst(128, 1, 0, 0, 0, 128, 0, 0, 0, 0, 0, 0, 0, 1);
    }

    private static void zerosBehindTheLastBit() {
        sentence("with 0s behind the last one up to a whole BYTE");
        NumberRiver x = Scenes.with(WHOLE);
        x.put(0, 0, 0);
        x.put(0, 64, 0);
        dueBits("six 0s behind", x, 0, "10 1111111 0");
        x.put(0, 129, 0);
        dueBits("four 0s behind", x, 0, "10 1111111 0  10 1000000 0");
        x.put(0, 194, 0);
        x.put(0, 259, 0);
        dueBits("no 0s behind", x, 0, "10 1111111 0  10 1000000 0  0 0  0 0");
        due("three whole bytes", x.block(0, 0, 3), 15);
        x.put(0, 324, 0);
        dueBits("six 0s behind again", x, 0, "10 1111111 0  10 1000000 0  0 0  0 0  0 0");
        due("one more byte", x.block(0, 0, 3), 16);
    }

    /** Three points of one value; the second is d behind the first. */
    private static void dueSecond(int d, String bits) {
        NumberRiver x = Scenes.with(WHOLE);
        x.put(0, 0, 4);
        x.put(0, d, 4);
        dueBits("D " + d + " of the second point", x, 0, bits + "0");
    }

    private static void changesOfStepUp() {
        sentence("D: -63 .. 64: 10 and D + 63 by 7; -255 .. 256: 110 and D + 255 by 9; -2047 .. 2048: 1110 and D + 2047 by 12; else 1111 and D by 32 (0 of the first)");
        dueSecond(1, "10 1000000");
        dueSecond(64, "10 1111111");
        dueSecond(65, "110 101000000");
        dueSecond(256, "110 111111111");
        dueSecond(257, "1110 100100000000");
        dueSecond(2048, "1110 111111111111");
        dueSecond(2049, "1111 00000000 00000000 00001000 00000001");
        dueSecond(LAST_TIME, "1111 00111011 10011010 11001010 00000000");
    }

    /** The second point is 5000 behind the first, the third 5000 + d behind the second. */
    private static void dueThird(int d, String bits) {
        NumberRiver x = Scenes.with(WHOLE);
        x.put(0, 0, 4);
        x.put(0, 5000, 4);
        x.put(0, 10_000 + d, 4);
        dueBits("D " + d, x, 0, "1111 00000000 00000000 00010011 10001000 0" + bits + "0");
    }

    private static void changesOfStepDown() {
        sentence("D is its TIME less that of the one before, less that one's own such step");
        dueThird(0, "0");
        dueThird(1, "10 1000000");
        dueThird(-1, "10 0111110");
        dueThird(64, "10 1111111");
        dueThird(-63, "10 0000000");
        dueThird(65, "110 101000000");
        dueThird(-64, "110 010111111");
        dueThird(256, "110 111111111");
        dueThird(-255, "110 000000000");
        dueThird(257, "1110 100100000000");
        dueThird(-256, "1110 011011111111");
        dueThird(2048, "1110 111111111111");
        dueThird(-2047, "1110 000000000000");
        dueThird(2049, "1111 00000000 00000000 00001000 00000001");
        dueThird(-2048, "1111 11111111 11111111 11111000 00000000");
    }

    private static void theSameStep() {
        sentence("0: the BIT 0; less that one's own such step (0 of the first)");
        NumberRiver x = Scenes.with(WHOLE);
        for (int k = 0; k < 18; k++) {
            x.put(0, 70 * k, 4);
        }
        dueBits("the first block", x, 0, "110 101000101 0" + "00".repeat(14));
        dueBits("in a new block the step is told anew", x, 1, "110 101000101 0");
        x.put(0, 70 * 18 + 5, 4);
        x.put(0, 70 * 19 + 10, 4);
        x.put(0, 70 * 20 + 10, 4);
        dueBits("5 more, as many, 5 less", x, 1, "110 101000101 0  10 1000100 0  0 0  10 0111010 0");
    }

    private static void widestChanges() {
        sentence("else 1111 and D by 32 (the lowest n of them, two's complement)");
        NumberRiver x = Scenes.with(WHOLE);
        x.put(0, 0, 4);
        x.put(0, LAST_TIME - 1, 4);
        x.put(0, LAST_TIME, 4);
        // 999,999,999 is 3B9AC9FF; 1 less that is -999,999,998, which is C4653602.
        dueBits("up and down", x, 0, "1111 00111011 10011010 11001001 11111111 0"
            + "1111 11000100 01100101 00110110 00000010 0");
        due("the time before the last", x.point(0, 0, 1, 0), LAST_TIME - 1);
        due("the last time", x.point(0, 0, 2, 0), LAST_TIME);
    }

    private static NumberRiver values(long... values) {
        NumberRiver x = Scenes.with(WHOLE);
        for (int k = 0; k < values.length; k++) {
            x.put(0, k, values[k]);
        }
        return x;
    }

    private static void noChangeOfValue() {
        sentence("X, the BITS (64) of its VALUE that are other than in the one before: none: the BIT 0");
        dueBits("the same", values(TOP, TOP), 0, "10 1000000 0");
        dueBits("the same again", values(-1, -1, -1), 0, "10 1000000 0  0 0");
    }

    private static void framesAtTheirLimits() {
        sentence("else 1, how many 0s X begins with by 6, how many BITS from its first 1 to its last one less 1 by 6, these BITS");
        dueBits("the last bit alone", values(0, 1), 0, "10 1000000 1 1 111111 000000 1");
        dueBits("all 64", values(0, -1), 0, "10 1000000 1 1 000000 111111 " + "1".repeat(64));
        dueBits("the highest a value has alone", values(0, 1L << 39), 0, "10 1000000 1 1 011000 000000 1");
        dueBits("40 of them", values(0, TOP - 1), 0, "10 1000000 1 1 011000 100111 "
            + "1110100011010100101001010000111111111111");
        dueBits("the sign and all above the value", values(0, -(1L << 39)), 0, "10 1000000 1 1 000000 011000 " + "1".repeat(25));
        dueBits("0s between the first 1 and the last", values(0, 0b1001_0000), 0, "10 1000000 1 1 111000 000011 1001");
    }

    private static void withinTheFrame() {
        sentence("and if there is a FRAME, and all 1s of X are within it: 0 and the BITS of X in the FRAME");
        String first = "10 1000000 1 1 111001 000011 1101";
        dueBits("its first bit", values(0, 0x68, 0x28), 0, first + "0 1 0 1000");
        dueBits("its last bit", values(0, 0x68, 0x60), 0, first + "0 1 0 0001");
        dueBits("all of it", values(0, 0x68, 0x10), 0, first + "0 1 0 1111");
        dueBits("it stays as wide", values(0, 0x68, 0x60, 0x20), 0, first + "0 1 0 0001" + "0 1 0 1000");
        dueBits("it stays behind no change", values(0, 0x68, 0x68, 0x60), 0, first + "0 0" + "0 1 0 0001");
    }

    private static void outsideTheFrame() {
        sentence("else 1, .. these BITS, which are the FRAME now (of the BLOCK; at first there is none)");
        String first = "10 1000000 1 1 111001 000011 1101";
        dueBits("one ahead", values(0, 0x68, 0xE8), 0, first + "0 1 1 111000 000000 1");
        dueBits("one behind", values(0, 0x68, 0x6C), 0, first + "0 1 1 111101 000000 1");
        dueBits("one ahead and its first", values(0, 0x68, 0xA8), 0, first + "0 1 1 111000 000001 11");
        dueBits("its last and one behind", values(0, 0x68, 0x64), 0, first + "0 1 1 111100 000001 11");
        dueBits("the old frame holds no more", values(0, 0x68, 0xE8, 0xA8), 0,
            first + "0 1 1 111000 000000 1" + "0 1 1 111001 000000 1");
        NumberRiver x = Scenes.with(WHOLE);
        x.fill(0, 0, 1, 0, 1, 18);
        dueBits("at first none, in a new block", x, 1, "10 1000000 1 1 111111 000000 1");
    }

    private static void tellingChangesNothing() {
        sentence("Nothing is promised beyond the answers and state changes described above");
        changesNothing("a byte", Scenes::rich, x -> x.at(3, 2, 2), 320 / 256);
        changesNothing("the last byte of a time", Scenes::rich, x -> x.at(3, 2, 3), 320 % 256);
        changesNothing("the torn byte", Scenes::rich, x -> x.at(3, 1, 0), 128);
    }
}
