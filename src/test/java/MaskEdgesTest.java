/** Promise 2: the edges of reductions, of masks and of the moves of single elements, a sentence each. */
public final class MaskEdgesTest {
    private static final int OLD = 0x55;

    private MaskEdgesTest() {
    }

    public static void main(String[] args) {
        reductionsAtTheirEnds();
        reductionsOfNone();
        reductionsOfAll();
        wideReductions();
        tailOfReductions();
        reductionsOntoThemselves();
        logic();
        logicToTheLastBit();
        count();
        first();
        aroundTheFirst();
        aroundTheFirstMasked();
        iota();
        numbers();
        readOne();
        writeOne();
        writeOneLate();
        Check.end();
    }

    private static void reductionsAtTheirEnds() {
        String sentence = "Reductions: element 0 of vd, from that of vs1 and all active ones of vs2";
        for (int sew = 8; sew <= 32; sew *= 2) {
            long ones = (1L << sew) - 1;
            long least = 1L << (sew - 1);
            reduced(sentence, sew, "vredsum", ones, 1, 0, 0);
            reduced(sentence, sew, "vredsum", least, least, 1, 1);
            reduced(sentence, sew, "vredsum", least - 1, 1, 0, least);
            reduced(sentence, sew, "vredand", ones, 3, 6, 2);
            reduced(sentence, sew, "vredand", 4, ones, ones, 4);
            reduced(sentence, sew, "vredor", 0, least, 1, least + 1);
            reduced(sentence, sew, "vredxor", ones, 1, least, ones - least - 1);
            reduced(sentence, sew, "vredminu", least, ones, least - 1, least - 1);
            reduced(sentence, sew, "vredminu", 0, ones, least, 0);
            reduced(sentence, sew, "vredmin", 0, least - 1, least, least);
            reduced(sentence, sew, "vredmin", ones, 0, 1, ones);
            reduced(sentence, sew, "vredmaxu", 0, least - 1, least, least);
            reduced(sentence, sew, "vredmaxu", ones, 0, 1, ones);
            reduced(sentence, sew, "vredmax", least, ones, least, ones);
            reduced(sentence, sew, "vredmax", least - 1, ones, least, least - 1);
            reduced(sentence, sew, "vredmax", ones, least, 0, 0);
        }
    }

    /** Of two elements; the third, behind VL, does not count, and of vs1 element 0 alone does. */
    private static void reduced(String sentence, int sew, String name, long begin, long a, long b, long due) {
        Bench t = new Bench(sentence + ": " + name + ", " + sew, "e" + sew + ", m1, tu, mu", 2);
        t.put(24, sew, begin, 0x5A, 0x25);
        t.put(16, sew, a, b, 0x66);
        t.put(8, sew, 7, 8, 9);
        t.does(name + ".vs v8, v16, v24");
        t.row(8, sew, due, 8, 9);
    }

    private static void reductionsOfNone() {
        for (String name : new String[] {"vredsum", "vredand", "vredor", "vredxor", "vredminu", "vredmin", "vredmaxu", "vredmax"}) {
            Bench t = new Bench("Reductions: of active ones, none is: " + name, "e16, m2, tu, ma", 16);
            t.choose(-1);
            t.put(24, 16, 0x8001);
            t.fill(16, 2, 0x77);
            t.fill(8, 2, OLD);
            t.does(name + ".vs v8, v16, v24, v0.t");
            t.row(8, 16, 0x8001, 0x5555, 0x5555);
            t.rowIs(9, 1, OLD);
        }
        Bench one = new Bench("Reductions: of active ones, the last is", "e8, m8, tu, mu", 128);
        one.fill(16, 8, 1);
        one.put(0, 32, 0, 0, 0, 1 << 31);
        one.put(24, 8, 9);
        one.does("vredsum.vs v8, v16, v24, v0.t");
        one.row(8, 8, 10);
    }

    private static void reductionsOfAll() {
        Bench t = new Bench("Reductions: of all of a full group", "e8, m8, tu, mu", 128);
        t.fill(16, 8, 0xFF);
        t.put(24, 8, 5);
        t.does("vredsum.vs v8, v16, v24");
        t.row(8, 8, 5 - 128);
        t.put(23, 8, 0xFF, 0xFF, 0xFF, 0xFF, 0xFF, 0xFF, 0xFF, 0xFF, 0xFF, 0xFF, 0xFF, 0xFF, 0xFF, 0xFF, 0xFF, 0x80);
        t.does("vredmin.vs v8, v16, v24");
        t.row(8, 8, 0x80);
        t.does("vredmaxu.vs v8, v16, v24");
        t.row(8, 8, 0xFF);
    }

    private static void wideReductions() {
        String sentence = "vwredsumu vwredsum (result and vs1[0] of twice the SEW)";
        for (int sew = 8; sew <= 16; sew *= 2) {
            long ones = (1L << sew) - 1;
            long wide = (1L << 2 * sew) - 1;
            Bench t = new Bench(sentence + ": " + sew, "e" + sew + ", m1, tu, mu", 2);
            t.put(24, 2 * sew, wide, 99);
            t.put(16, sew, ones, ones, 77);
            t.put(8, 2 * sew, 7, 8);
            t.does("vwredsumu.vs v8, v16, v24");
            t.row(8, 2 * sew, 2 * ones - 1, 8);
            t.does("vwredsum.vs v8, v16, v24");
            t.row(8, 2 * sew, wide - 2, 8);
            t.put(24, 2 * sew, wide >> 1, 99);
            t.put(16, sew, 1, 0);
            t.does("vwredsum.vs v8, v16, v24");
            t.row(8, 2 * sew, (wide >> 1) + 1, 8);
        }
        Bench most = new Bench(sentence + ": of 128", "e8, m8, tu, mu", 128);
        most.fill(16, 8, 0x80);
        most.does("vwredsumu.vs v8, v16, v24");
        most.row(8, 16, 128 * 128, 0);
        most.does("vwredsum.vs v8, v16, v24");
        most.row(8, 16, -128 * 128, 0);
    }

    private static void tailOfReductions() {
        String sentence = "Reductions: the rest of register vd is its TAIL";
        Bench open = new Bench(sentence + ": ta", "e8, m8, ta, mu", 3);
        open.choose(~(1L << 15));
        open.fill(7, 3, OLD);
        open.does("vredsum.vs v8, v16, v24");
        open.row(8, 8, 0);
        open.rowIs(8, 8, 1, 15, 0xFF);
        open.rowIs(8, 8, 15, 16, OLD);
        open.rowIs(9, 1, OLD);
        open.rowIs(7, 1, OLD);
        Bench fraction = new Bench(sentence + ": ta, 1/4", "e8, mf4, ta, mu", 3);
        fraction.choose(-1);
        fraction.does("vredsum.vs v8, v16, v24");
        fraction.row(8, 8, 0);
        fraction.rowIs(8, 8, 1, 16, 0xFF);
        fraction.rowIs(9, 1, 0);
        Bench wide = new Bench(sentence + ": ta, of twice the SEW", "e8, m1, ta, mu", 3);
        wide.choose(2);
        wide.does("vwredsum.vs v8, v16, v24");
        wide.row(8, 16, 0, -1, 0, 0, 0, 0, 0, 0);
        Bench stay = new Bench(sentence + ": tu", "e8, m1, tu, mu", 3);
        stay.choose(-1);
        stay.fill(8, 1, OLD);
        stay.does("vredsum.vs v8, v16, v24");
        stay.row(8, 8, 0);
        stay.rowIs(8, 8, 1, 16, OLD);
    }

    private static void reductionsOntoThemselves() {
        Bench t = new Bench("Reductions: vd may be of vs2, vs1 and v0", "e8, m1, ta, mu", 8);
        t.choose(-1);
        t.put(0, 8, 0b11110001, 1, 1, 1, 2, 2, 2, 2);
        t.does("vredsum.vs v0, v0, v0, v0.t");
        t.row(0, 8, 0xF1 + 0xF1 + 8);
    }

    private static void logic() {
        String sentence = "vmand vmnand vmandn vmxor vmor vmnor vmorn vmxnor";
        String[] names = {"vmand", "vmnand", "vmandn", "vmxor", "vmor", "vmnor", "vmorn", "vmxnor"};
        // of 0 0, 1 0, 0 1, 1 1 (vs2, vs1), from bit 0 on
        int[] due = {0b1000, 0b0111, 0b0010, 0b0110, 0b1110, 0b0001, 0b1011, 0b1001};
        for (int k = 0; k < names.length; k++) {
            Bench t = new Bench(sentence + ": " + names[k], "e32, m1, tu, mu", 4);
            t.put(16, 8, 0b1010);
            t.put(24, 8, 0b1100);
            t.does(names[k] + ".mm v8, v16, v24");
            t.row(8, 8, due[k]);
            t.does(names[k] + ".mm v16, v16, v24");
            t.row(16, 8, due[k]);
        }
    }

    private static void logicToTheLastBit() {
        Bench t = new Bench("vmxnor: all bits to VL, and no further", "e8, m8, tu, mu", 127);
        t.does("vmxnor.mm v8, v16, v24");
        t.row(8, 32, -1, -1, -1, 0x7FFFFFFF);
    }

    private static void count() {
        Bench t = new Bench("vcpop (of active ones, of none 0)", "e8, m8, tu, mu", 128);
        t.fill(16, 1, 0xFF);
        t.does("vcpop.m x3, v16");
        t.isX(3, 128);
        t.does("vcpop.m x3, v16, v0.t");
        t.isX(3, 0);
        t.put(0, 32, 1, 0, 0, 1 << 31);
        t.does("vcpop.m x3, v16, v0.t");
        t.isX(3, 2);
        t.does("vcpop.m x3, v0, v0.t");
        t.isX(3, 2);
        t.does("vcpop.m x3, v24");
        t.isX(3, 0);
        t.type("e8, m8, tu, mu", 127);
        t.does("vcpop.m x3, v0");
        t.isX(3, 1);
        t.does("vcpop.m x0, v0");
        t.isX(0, 0);
    }

    private static void first() {
        Bench t = new Bench("vfirst (of active ones, of none -1)", "e8, m8, tu, mu", 128);
        t.x(3, 77);
        t.does("vfirst.m x3, v16");
        t.isX(3, -1);
        t.put(16, 32, 0, 0, 0, 1 << 31);
        t.does("vfirst.m x3, v16");
        t.isX(3, 127);
        t.does("vfirst.m x3, v16, v0.t");
        t.isX(3, -1);
        t.type("e8, m8, tu, mu", 127);
        t.does("vfirst.m x3, v16");
        t.isX(3, -1);
        t.put(16, 32, 0b10011);
        t.does("vfirst.m x3, v16");
        t.isX(3, 0);
        t.put(0, 32, 0b11100);
        t.does("vfirst.m x3, v16, v0.t");
        t.isX(3, 4);
        t.does("vfirst.m x0, v16");
        t.isX(0, 0);
    }

    private static void aroundTheFirst() {
        // vs2 of six bits, then what vmsbf, vmsif, vmsof answer
        int[][] rows = {
            {0b000000, 0b111111, 0b111111, 0b000000}, {0b000001, 0b000000, 0b000001, 0b000001},
            {0b111111, 0b000000, 0b000001, 0b000001}, {0b101000, 0b000111, 0b001111, 0b001000},
            {0b100000, 0b011111, 0b111111, 0b100000}, {0b1000000, 0b111111, 0b111111, 0b000000},
        };
        for (int[] row : rows) {
            Bench t = new Bench("vmsbf vmsif vmsof of " + row[0], "e32, m2, tu, mu", 6);
            t.put(16, 8, row[0]);
            t.put(8, 8, 0x3F);
            t.does("vmsbf.m v8, v16");
            t.row(8, 8, row[1]);
            t.does("vmsif.m v8, v16");
            t.row(8, 8, row[2]);
            t.does("vmsof.m v8, v16");
            t.row(8, 8, row[3]);
        }
    }

    private static void aroundTheFirstMasked() {
        Bench t = new Bench("vmsbf vmsif vmsof, masked: of active ones", "e32, m2, tu, mu", 6);
        t.put(0, 8, 0b111100);
        t.put(16, 8, 0b011010);
        t.put(8, 8, 0b000001);
        t.does("vmsbf.m v8, v16, v0.t");
        t.row(8, 8, 0b000101);
        t.does("vmsif.m v8, v16, v0.t");
        t.row(8, 8, 0b001101);
        t.does("vmsof.m v8, v16, v0.t");
        t.row(8, 8, 0b001001);
    }

    private static void iota() {
        Bench t = new Bench("viota: how many are ahead", "e8, m8, tu, mu", 128);
        t.fill(16, 1, 0xFF);
        t.does("viota.m v8, v16");
        for (int i : new int[] {0, 1, 63, 64, 126, 127}) {
            t.rowIs(8, 8, i, i + 1, i);
        }
        t.type("e16, m1, tu, mu", 5);
        t.put(8, 16, 99, 99, 99, 99, 99, 99);
        t.put(16, 8, 0b10010);
        t.does("viota.m v8, v16");
        t.row(8, 16, 0, 0, 1, 1, 1, 99);
        t.put(0, 8, 0b11101);
        t.put(16, 8, 0b01011);
        t.put(8, 16, 99, 99, 99, 99, 99, 99);
        t.does("viota.m v8, v16, v0.t");
        t.row(8, 16, 0, 99, 1, 1, 2, 99);
    }

    private static void numbers() {
        Bench t = new Bench("vid: each its own number", "e8, m8, tu, mu", 128);
        t.does("vid.v v8");
        for (int i : new int[] {0, 1, 63, 64, 126, 127}) {
            t.rowIs(8, 8, i, i + 1, i);
        }
        t.type("e32, m1, tu, ma", 4);
        t.put(0, 8, 0b1010);
        t.fill(8, 1, OLD);
        t.choose(1);
        t.does("vid.v v8, v0.t");
        t.row(8, 32, -1, 1, 0x55555555, 3);
        t.set(Bench.VSTART, 3);
        t.does("vid.v v9");
        t.row(9, 32, 0x13121110, 0x17161514, 0x1B1A1918, 3);
    }

    private static void readOne() {
        String sentence = "vmv.x.s (element 0 of vs2, its SEW, with sign)";
        int[][] rows = {
            {8, 0x80, -128}, {8, 0x7F, 127}, {8, 0xFF, -1}, {16, 0x8000, -32768}, {16, 0x7FFF, 32767}, {16, 0xFFFF, -1},
            {32, Integer.MIN_VALUE, Integer.MIN_VALUE}, {32, Integer.MAX_VALUE, Integer.MAX_VALUE},
        };
        for (int[] row : rows) {
            Bench t = new Bench(sentence + ": " + row[1], "e" + row[0] + ", m1, tu, mu", 1);
            t.fill(31, 1, OLD);
            t.put(31, row[0], row[1]);
            t.does("vmv.x.s x3, v31");
            t.isX(3, row[2]);
            t.does("vmv.x.s x0, v31");
            t.isX(0, 0);
        }
    }

    private static void writeOne() {
        String sentence = "vmv.s.x (element 0; the rest of the register is TAIL)";
        Bench open = new Bench(sentence + ": ta", "e16, m8, ta, mu", 9);
        open.choose(~0b01111100L);
        open.fill(8, 3, OLD);
        open.x(3, 0x12348001);
        open.does("vmv.s.x v9, x3");
        open.row(9, 16, 0x8001, 0xFFFF, 0x5555, 0x5555, 0x5555, 0x5555, 0x5555, 0xFFFF);
        open.rowIs(8, 1, OLD);
        open.rowIs(10, 1, OLD);
        Bench stay = new Bench(sentence + ": tu", "e8, mf4, tu, mu", 1);
        stay.choose(-1);
        stay.fill(9, 1, OLD);
        stay.does("vmv.s.x v9, x0");
        stay.row(9, 8, 0);
        stay.rowIs(9, 8, 1, 16, OLD);
    }

    private static void writeOneLate() {
        Bench t = new Bench("vmv.s.x (element 0 whenever VSTART is below VL)", "e32, m1, tu, mu", 3);
        t.x(3, -7);
        t.set(Bench.VSTART, 2);
        t.does("vmv.s.x v8, x3");
        t.row(8, 32, -7, 0, 0, 0);
        t.is(Bench.VSTART, 0);
        t.x(3, 9);
        t.set(Bench.VSTART, 3);
        t.does("vmv.s.x v8, x3");
        t.row(8, 32, -7, 0, 0, 0);
        t.is(Bench.VSTART, 0);
        t.type("e32, m1, tu, mu", 0);
        t.does("vmv.s.x v8, x3");
        t.row(8, 32, -7, 0, 0, 0);
        Bench rest = new Bench("vmv.s.x: the rest of the register is TAIL, ahead of VSTART, too", "e32, m1, ta, mu", 4);
        rest.choose(0b0111);
        rest.x(3, -7);
        rest.set(Bench.VSTART, 3);
        rest.does("vmv.s.x v8, x3");
        rest.row(8, 32, -7, -1, -1, 0);
    }
}
