/** Promise 2: the edges of slides, gathers, vcompress and of moves of whole registers, a sentence each. */
public final class MoveEdgesTest {
    private MoveEdgesTest() {
    }

    public static void main(String[] args) {
        slideUp();
        slideUpBelowIt();
        slideUpBeyond();
        slideDown();
        slideDownBeyond();
        slideDownOfAFraction();
        slidesHaveNoSign();
        slideOneUp();
        slideOneDown();
        gather();
        gatherOfAFraction();
        gatherByOne();
        gatherBy16();
        compress();
        compressNotReached();
        wholes();
        wholesFromStart();
        wholesWithoutLength();
        Check.end();
    }

    /** v16 has 11, 12, .. 18, v8 has 91, 92, .. 98, of 16 bits. */
    private static Bench bench(String sentence, String policies, int vl) {
        Bench t = new Bench(sentence, "e16, m1, " + policies, vl);
        t.put(16, 16, 11, 12, 13, 14, 15, 16, 17, 18);
        t.put(8, 16, 91, 92, 93, 94, 95, 96, 97, 98);
        t.put(17, 16, 19);
        t.choose(-1);
        return t;
    }

    private static void slideUp() {
        Bench t = bench("vslideup XI (by x[rs1], the number)", "tu, mu", 6);
        t.does("vslideup.vi v8, v16, 0");
        t.row(8, 16, 11, 12, 13, 14, 15, 16, 97, 98);
        t.x(1, 2);
        t.does("vslideup.vx v8, v16, x1");
        t.row(8, 16, 11, 12, 11, 12, 13, 14, 97, 98);
        t.does("vslideup.vi v8, v16, 5");
        t.row(8, 16, 11, 12, 11, 12, 13, 11, 97, 98);
        t.set(Bench.VSTART, 4);
        t.does("vslideup.vi v8, v16, 1");
        t.row(8, 16, 11, 12, 11, 12, 14, 15, 97, 98);
        t.set(Bench.VSTART, 1);
        t.does("vslideup.vi v8, v16, 3");
        t.row(8, 16, 11, 12, 11, 11, 12, 13, 97, 98);
    }

    private static void slideUpBelowIt() {
        Bench t = bench("vslideup: elements below it stay, masked off or not", "ta, ma", 6);
        t.put(0, 8, 0b101010);
        t.does("vslideup.vi v8, v16, 3, v0.t");
        t.row(8, 16, 91, 92, 93, 11, -1, 13, -1, -1);
    }

    private static void slideUpBeyond() {
        for (int by : new int[] {6, 7, 8, 100, Integer.MAX_VALUE, Integer.MIN_VALUE, -1, -6}) {
            Bench t = bench("vslideup: elements below it stay, all of them: " + by, "tu, ma", 6);
            t.x(1, by);
            t.does("vslideup.vx v8, v16, x1");
            t.row(8, 16, 91, 92, 93, 94, 95, 96, 97, 98);
            t.does("vslideup.vx v8, v16, x1, v0.t");
            t.row(8, 16, 91, 92, 93, 94, 95, 96, 97, 98);
        }
        Bench tail = bench("vslideup: by VL; the TAIL is open", "ta, mu", 6);
        tail.does("vslideup.vi v8, v16, 6");
        tail.row(8, 16, 91, 92, 93, 94, 95, 96, -1, -1);
        Bench beyond = bench("vslideup: by more than VL; the TAIL is open, below that, too", "ta, mu", 3);
        beyond.does("vslideup.vi v8, v16, 5");
        beyond.row(8, 16, 91, 92, 93, -1, -1, -1, -1, -1);
    }

    private static void slideDown() {
        Bench t = bench("vslidedown XI (by x[rs1], the number): what stands behind VL comes in", "tu, mu", 5);
        t.does("vslidedown.vi v8, v16, 0");
        t.row(8, 16, 11, 12, 13, 14, 15, 96, 97, 98);
        t.x(1, 3);
        t.does("vslidedown.vx v8, v16, x1");
        t.row(8, 16, 14, 15, 16, 17, 18, 96, 97, 98);
        t.does("vslidedown.vi v16, v16, 1");
        t.row(16, 16, 12, 13, 14, 15, 16, 16, 17, 18);
    }

    private static void slideDownBeyond() {
        Bench t = bench("vslidedown: from beyond VLMAX 0", "tu, mu", 5);
        t.does("vslidedown.vi v8, v16, 4");
        t.row(8, 16, 15, 16, 17, 18, 0, 96, 97, 98);
        t.does("vslidedown.vi v8, v16, 7");
        t.row(8, 16, 18, 0, 0, 0, 0, 96, 97, 98);
        t.does("vslidedown.vi v8, v16, 8");
        t.row(8, 16, 0, 0, 0, 0, 0, 96, 97, 98);
        Bench masked = bench("vslidedown: masked off ones stay, where 0 would come, too", "tu, mu", 5);
        masked.put(0, 8, 0b01010);
        masked.does("vslidedown.vi v8, v16, 6, v0.t");
        masked.row(8, 16, 91, 18, 93, 0, 95, 96, 97, 98);
    }

    private static void slideDownOfAFraction() {
        Bench t = new Bench("vslidedown: from beyond VLMAX 0, though the register goes on", "e8, mf4, tu, mu", 3);
        t.put(16, 8, 1, 2, 3, 4, 5, 6, 7, 8);
        t.put(8, 8, 91, 92, 93, 94);
        t.does("vslidedown.vi v8, v16, 2");
        t.row(8, 8, 3, 4, 0, 94);
        t.does("vslidedown.vi v8, v16, 4");
        t.row(8, 8, 0, 0, 0, 94);
    }

    private static void slidesHaveNoSign() {
        for (int by : new int[] {-1, -2, -5, Integer.MIN_VALUE, Integer.MAX_VALUE, 0x10000}) {
            Bench t = bench("vslidedown: by x[rs1] without sign: " + by, "tu, mu", 5);
            t.x(1, by);
            t.does("vslidedown.vx v8, v16, x1");
            t.row(8, 16, 0, 0, 0, 0, 0, 96, 97, 98);
        }
        Bench t = new Bench("vslideup, vslidedown: the number is without sign", "e8, m4, tu, mu", 40);
        t.does("vid.v v16");
        t.does("vslidedown.vi v8, v16, 31");
        t.rowIs(8, 8, 0, 1, 31);
        t.rowIs(8, 8, 8, 9, 39);
        t.does("vslideup.vi v8, v16, 31");
        t.rowIs(8, 8, 30, 31, 0);
        t.rowIs(8, 8, 31, 32, 0);
        t.rowIs(8, 8, 39, 40, 8);
        t.does("vslidedown.vi v8, v16, 16");
        t.rowIs(8, 8, 0, 1, 16);
        Bench zero = bench("vslideup, vslidedown by x0", "tu, mu", 5);
        zero.does("vslidedown.vx v8, v16, x0");
        zero.row(8, 16, 11, 12, 13, 14, 15, 96, 97, 98);
    }

    private static void slideOneUp() {
        Bench t = bench("vslide1up X (x[rs1] comes in as element 0)", "tu, mu", 5);
        t.x(1, 0x12345678);
        t.does("vslide1up.vx v8, v16, x1");
        t.row(8, 16, 0x5678, 11, 12, 13, 14, 96, 97, 98);
        t.set(Bench.VSTART, 1);
        t.x(1, 5);
        t.does("vslide1up.vx v8, v16, x1");
        t.row(8, 16, 0x5678, 11, 12, 13, 14, 96, 97, 98);
        t.put(0, 8, 0b11110);
        t.does("vslide1up.vx v8, v16, x1, v0.t");
        t.row(8, 16, 0x5678, 11, 12, 13, 14, 96, 97, 98);
        Bench one = bench("vslide1up of VL 1", "ta, mu", 1);
        one.x(1, -1);
        one.choose(0);
        one.does("vslide1up.vx v8, v16, x1");
        one.row(8, 16, -1, 92, 93);
        one.does("vslide1up.vx v8, v16, x0");
        one.row(8, 16, 0, 92, 93);
    }

    private static void slideOneDown() {
        Bench t = bench("vslide1down X (x[rs1] comes in as element VL - 1)", "tu, mu", 5);
        t.x(1, 0x12345678);
        t.does("vslide1down.vx v8, v16, x1");
        t.row(8, 16, 12, 13, 14, 15, 0x5678, 96, 97, 98);
        t.set(Bench.VSTART, 4);
        t.x(1, 5);
        t.does("vslide1down.vx v8, v16, x1");
        t.row(8, 16, 12, 13, 14, 15, 5, 96, 97, 98);
        t.put(0, 8, 0b01111);
        t.x(1, 6);
        t.does("vslide1down.vx v8, v16, x1, v0.t");
        t.row(8, 16, 12, 13, 14, 15, 5, 96, 97, 98);
        t.does("vslide1down.vx v16, v16, x1");
        t.row(16, 16, 12, 13, 14, 15, 6, 16, 17, 18);
        Bench one = bench("vslide1down of VL 1", "tu, mu", 1);
        one.x(1, -1);
        one.does("vslide1down.vx v8, v16, x1");
        one.row(8, 16, -1, 92, 93);
        Bench most = bench("vslide1down of VLMAX", "tu, mu", 8);
        most.does("vslide1down.vx v8, v16, x0");
        most.row(8, 16, 12, 13, 14, 15, 16, 17, 18, 0);
    }

    private static void gather() {
        Bench t = bench("vrgather V: what stands behind VL counts, indices not below VLMAX: 0", "tu, mu", 5);
        t.put(24, 16, 7, 8, 0, 0xFFFF, 5);
        t.does("vrgather.vv v8, v16, v24");
        t.row(8, 16, 18, 0, 11, 0, 16, 96, 97, 98);
        t.put(24, 16, 0x8000, 0x100, 9, 16, 0);
        t.does("vrgather.vv v8, v16, v24");
        t.row(8, 16, 0, 0, 0, 0, 11, 96, 97, 98);
        Bench bytes = new Bench("vrgather V of 128 elements: indices of 8 bits", "e8, m8, tu, mu", 3);
        bytes.fill(16, 8, 7);
        bytes.put(24, 8, 127, 128, 255);
        bytes.does("vrgather.vv v8, v16, v24");
        bytes.row(8, 8, 7, 0, 0, 0);
    }

    private static void gatherOfAFraction() {
        Bench t = new Bench("vrgather: not below VLMAX: 0, though the register goes on", "e8, mf4, tu, mu", 3);
        t.put(16, 8, 1, 2, 3, 4, 5, 6);
        t.put(24, 8, 3, 4, 5);
        t.does("vrgather.vv v8, v16, v24");
        t.row(8, 8, 4, 0, 0);
        t.does("vrgather.vi v8, v16, 3");
        t.row(8, 8, 4, 4, 4);
        t.does("vrgather.vi v8, v16, 4");
        t.row(8, 8, 0, 0, 0);
    }

    private static void gatherByOne() {
        String sentence = "vrgather XI (by x[rs1], the number too)";
        int[][] rows = {
            {0, 11}, {7, 18}, {8, 0}, {-1, 0}, {Integer.MIN_VALUE, 0}, {Integer.MAX_VALUE, 0}, {0x10000, 0}, {0x10003, 0},
        };
        for (int[] row : rows) {
            Bench t = bench(sentence + ": " + row[0], "tu, mu", 3);
            t.x(1, row[0]);
            t.does("vrgather.vx v8, v16, x1");
            t.row(8, 16, row[1], row[1], row[1], 94);
        }
        Bench t = new Bench("Of gathers the number is without sign", "e8, m2, tu, mu", 32);
        t.does("vid.v v16");
        t.does("vrgather.vi v8, v16, 31");
        t.rowIs(8, 8, 0, 32, 31);
        t.does("vrgather.vi v8, v16, 16");
        t.rowIs(8, 8, 0, 2, 16);
        t.does("vrgather.vx v8, v16, x0");
        t.rowIs(8, 8, 0, 2, 0);
        Bench few = bench("Of gathers the number is without sign, not below VLMAX: 0", "tu, mu", 3);
        few.does("vrgather.vi v8, v16, 31");
        few.row(8, 16, 0, 0, 0, 94);
        few.does("vrgather.vi v8, v16, 7");
        few.row(8, 16, 18, 18, 18, 94);
    }

    private static void gatherBy16() {
        String sentence = "vrgatherei16 V (indices of 16 bits; not below VLMAX: 0)";
        Bench bytes = new Bench(sentence + ": of bytes", "e8, m4, tu, mu", 6);
        bytes.fill(16, 4, 7);
        bytes.put(16, 8, 1, 2, 3);
        bytes.put(24, 16, 63, 64, 0x100, 0x101, 0xFFFF, 2);
        bytes.does("vrgatherei16.vv v8, v16, v24");
        bytes.row(8, 8, 7, 0, 0, 0, 0, 3, 0);
        Bench words = new Bench(sentence + ": of words", "e32, m1, tu, mu", 4);
        words.put(16, 32, 1, 2, 3, 4);
        words.put(24, 16, 3, 4, 0x8000, 0);
        words.does("vrgatherei16.vv v8, v16, v24");
        words.row(8, 32, 4, 0, 0, 1);
    }

    private static void compress() {
        Bench t = bench("vcompress: as far as bits of vs1 say", "tu, mu", 6);
        t.put(24, 8, 0b11101001);
        t.does("vcompress.vm v8, v16, v24");
        t.row(8, 16, 11, 14, 16, 94, 95, 96, 97, 98);
        t.put(24, 8, 0xFF);
        t.does("vcompress.vm v8, v16, v24");
        t.row(8, 16, 11, 12, 13, 14, 15, 16, 97, 98);
        Bench last = bench("vcompress: the last bit alone", "tu, mu", 6);
        last.put(24, 8, 0b11100000);
        last.does("vcompress.vm v8, v16, v24");
        last.row(8, 16, 16, 92, 93);
        Bench far = new Bench("vcompress: bit 127", "e8, m8, tu, mu", 128);
        far.does("vid.v v16");
        far.put(24, 32, 0, 0, 0, 1 << 31);
        far.does("vcompress.vm v8, v16, v24");
        far.row(8, 8, 127, 0);
    }

    private static void compressNotReached() {
        Bench open = bench("vcompress: what is not reached is TAIL: ta", "ta, mu", 6);
        open.put(24, 8, 0b000110);
        open.choose(~0b1000);
        open.does("vcompress.vm v8, v16, v24");
        open.row(8, 16, 12, 13, -1, 94, -1, -1, -1, -1);
        Bench none = bench("vcompress: what is not reached is TAIL: all of it", "ta, mu", 6);
        none.does("vcompress.vm v8, v16, v24");
        none.row(8, 16, -1, -1, -1, -1, -1, -1, -1, -1);
        Bench stay = bench("vcompress: what is not reached is TAIL: tu", "tu, mu", 6);
        stay.does("vcompress.vm v8, v16, v24");
        stay.row(8, 16, 91, 92, 93, 94, 95, 96, 97, 98);
        Bench all = bench("vcompress: all reached", "ta, mu", 8);
        all.put(24, 8, 0xFF);
        all.fill(9, 1, 0x55);
        all.does("vcompress.vm v8, v16, v24");
        all.row(8, 16, 11, 12, 13, 14, 15, 16, 17, 18);
        all.rowIs(9, 1, 0x55);
    }

    private static void wholes() {
        for (int count = 1; count <= 8; count *= 2) {
            Bench t = new Bench("vmv1r 2r 4r 8r: whole registers", "e8, m1, ta, ma", 3);
            t.choose(-1);
            for (int k = 0; k < 9; k++) {
                t.fill(16 + k, 1, 0x10 + k);
                t.fill(7 + k, 1, 0x55);
            }
            t.does("vmv" + count + "r.v v8, v16");
            t.rowIs(7, 1, 0x55);
            for (int k = 0; k < 8; k++) {
                t.rowIs(8 + k, 1, k < count ? 0x10 + k : 0x55);
            }
            t.rowIs(16, 1, 0x10);
        }
    }

    private static void wholesFromStart() {
        String sentence = "vmv1r 2r 4r 8r: elements of SEW from VSTART on, as VL were all of them";
        // SEW, how many registers, VSTART, the first byte that is moved
        int[][] rows = {
            {8, 1, 15, 15}, {8, 1, 16, 16}, {8, 1, 127, 16}, {8, 8, 127, 127}, {16, 2, 15, 30}, {16, 2, 16, 32}, {32, 2, 7, 28},
            {32, 2, 8, 32}, {32, 8, 31, 124}, {32, 8, 32, 128}, {32, 1, 1, 4}, {16, 8, 63, 126}, {16, 8, 64, 128},
        };
        for (int[] row : rows) {
            Bench t = new Bench(sentence + ": " + row[0] + ", " + row[1] + ", " + row[2], "e" + row[0] + ", m1, ta, ma", 3);
            t.choose(-1);
            t.fill(16, 8, 0x33);
            t.fill(8, 8, 0x55);
            t.set(Bench.VSTART, row[2]);
            t.does("vmv" + row[1] + "r.v v8, v16");
            t.rowIs(8, 8, 0, row[3], 0x55);
            t.rowIs(8, 8, row[3], 16 * row[1], 0x33);
            t.rowIs(8, 8, 16 * row[1], 128, 0x55);
            t.is(Bench.VSTART, 0);
        }
    }

    private static void wholesWithoutLength() {
        Bench t = new Bench("vmv1r 2r 4r 8r: with VL 0, too", "e16, m1, tu, mu", 0);
        t.fill(16, 2, 0x33);
        t.does("vmv2r.v v8, v16");
        t.rowIs(8, 2, 0x33);
        t.set(Bench.VSTART, 3);
        t.fill(8, 2, 0x55);
        t.does("vmv2r.v v8, v16");
        t.rowIs(8, 16, 0, 3, 0x5555);
        t.rowIs(8, 16, 3, 16, 0x3333);
        t.is(Bench.VL, 0);
    }
}
