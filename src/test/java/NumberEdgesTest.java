/** Promise 2: the edges of what single elements become, a sentence each, in all forms that an instruction has. */
public final class NumberEdgesTest {
    private static final int VD = 8;
    private static final int VS2 = 16;
    private static final int VS1 = 24;
    private static final int NO_SATURATION = 0;
    private static final int SATURATION = 1;

    private final int sew;
    // Of a SEW, without sign: all ones (-1), the least number with sign, the greatest one.
    private final long ones;
    private final long least;
    private final long most;
    // The same of twice the SEW.
    private final long wideOnes;
    private final long wideLeast;
    private final long wideMost;
    private String sentence = "";
    private int rounding;
    private long old;

    private NumberEdgesTest(int sew) {
        this.sew = sew;
        ones = (1L << sew) - 1;
        least = 1L << (sew - 1);
        most = least - 1;
        wideOnes = sew == 32 ? -1 : (1L << 2 * sew) - 1;
        wideLeast = 1L << (2 * sew - 1);
        wideMost = wideLeast - 1;
    }

    public static void main(String[] args) {
        for (int sew = 8; sew <= 32; sew *= 2) {
            NumberEdgesTest t = new NumberEdgesTest(sew);
            t.sums();
            t.bits();
            t.extremes();
            t.shifts();
            t.products();
            t.quotients();
            t.productsAdded();
            t.carries();
            t.carriesOut();
            t.compares();
            t.saturation();
            t.averages();
            t.averagesOfDifferences();
            t.roundedShifts();
            t.fractions();
            t.moves();
            if (sew < 32) {
                t.narrow();
                t.clips();
                t.wideSums();
                t.wideOperands();
                t.wideProducts();
            }
        }
        extensions();
        saturationStays();
        Check.end();
    }

    /** Tries .vv, .vx and .vi, or .wv, .wx and .wi, as far as there are such, in the elements 0 and 1 of three. */
    private void due(String name, long a, long b, long due, int saturated) {
        for (String letters : new String[] {"vv", "vx", "vi"}) {
            one(name, letters, a, b, due, saturated);
        }
    }

    private void due(String name, long a, long b, long due) {
        due(name, a, b, due, NO_SATURATION);
    }

    /** The same, of vs2 of twice the SEW. */
    private void wide(String name, long a, long b, long due, int saturated) {
        for (String letters : new String[] {"wv", "wx", "wi"}) {
            one(name, letters, a, b, due, saturated);
        }
    }

    private void wide(String name, long a, long b, long due) {
        wide(name, a, b, due, NO_SATURATION);
    }

    /** Results by VXRM 0, 1, 2, 3. */
    private void rounded(String name, long a, long b, long... due) {
        for (rounding = 0; rounding < 4; rounding++) {
            due(name, a, b, due[rounding]);
        }
        rounding = 0;
    }

    private void one(String name, String letters, long a, long b, long due, int saturated) {
        char second = letters.charAt(1);
        if (!Words.knows(name + "." + letters) || second == 'i' && !isNumber(name, b)) {
            return;
        }
        int ofTarget = name.startsWith("vw") ? 2 * sew : sew;
        int ofLeft = letters.charAt(0) == 'w' ? 2 * sew : sew;
        Bench t = bench(name + "." + letters + " " + a + ", " + b + ", VXRM " + rounding);
        t.put(VS2, ofLeft, a, a, a);
        t.put(VS1, sew, b, b, b);
        t.put(VD, ofTarget, old, old, old);
        t.x(1, inRegister(b));
        String other = second == 'v' ? "v" + VS1 : second == 'x' ? "x1" : "" + number(name, b);
        boolean isTurned = name.contains("mac") || name.contains("msac") || name.contains("madd") || name.contains("msub");
        String left = "v" + VS2;
        t.does(name + "." + letters + " v" + VD + ", " + (isTurned ? other + ", " + left : left + ", " + other));
        t.row(VD, ofTarget, due, due, old);
        t.is(Bench.VXSAT, saturated);
    }

    private Bench bench(String what) {
        Bench t = new Bench(sentence + ": " + what, "e" + sew + ", m1, tu, mu", 2);
        t.set(Bench.VXRM, rounding);
        return t;
    }

    /** Of SEW below 32 the lowest bits alone are asked for: the others get in the way here. */
    private int inRegister(long b) {
        return sew == 32 ? (int) b : (int) (b & ones | 0x5A5A5A5AL << sew);
    }

    private static boolean isShift(String name) {
        return name.startsWith("vs") && (name.contains("sl") || name.contains("sr")) || name.startsWith("vn");
    }

    private boolean isNumber(String name, long b) {
        if (isShift(name)) {
            return b >= 0 && b < 32;
        }
        return b < 16 || b > ones - 16;
    }

    private long number(String name, long b) {
        return isShift(name) || b < 16 ? b : b - ones - 1;
    }

    private void sums() {
        sentence = "vadd VXI, vsub VX, vrsub XI: sums go round";
        due("vadd", ones, 1, 0);
        due("vadd", most, 1, least);
        due("vadd", least, least, 0);
        due("vadd", 0, ones, ones);
        due("vadd", 0, ones - 15, ones - 15);
        due("vadd", 0, 15, 15);
        due("vsub", 0, 1, ones);
        due("vsub", least, 1, most);
        due("vsub", 0, least, least);
        due("vrsub", 1, 0, ones);
        due("vrsub", least, 0, least);
        due("vrsub", 1, least, most);
        due("vrsub", 0, ones - 15, ones - 15);
    }

    private void bits() {
        sentence = "vand vor vxor VXI";
        due("vand", ones, 0, 0);
        due("vand", ones, ones, ones);
        due("vand", ones, ones - 15, ones - 15);
        due("vor", 0, ones, ones);
        due("vor", least, 15, least + 15);
        due("vxor", ones, ones, 0);
        due("vxor", most, ones, least);
    }

    private void extremes() {
        sentence = "vminu vmin vmaxu vmax VX";
        due("vminu", least, most, most);
        due("vmin", least, most, least);
        due("vmaxu", least, most, least);
        due("vmax", least, most, most);
        due("vminu", ones, 0, 0);
        due("vmin", ones, 0, ones);
        due("vmaxu", ones, 0, ones);
        due("vmax", ones, 0, 0);
        sentence = "vminu vmin vmaxu vmax VX: the other way round";
        due("vminu", most, least, most);
        due("vmin", most, least, least);
        due("vmaxu", most, least, least);
        due("vmax", most, least, most);
        due("vminu", 0, ones, 0);
        due("vmin", 0, ones, ones);
        due("vmaxu", 0, ones, ones);
        due("vmax", 0, ones, 0);
        due("vmin", 5, 5, 5);
    }

    private void shifts() {
        sentence = "vsll vsrl vsra VXI (by the lowest bits of the second)";
        due("vsll", 1, sew - 1, least);
        due("vsll", 1, sew, 1);
        due("vsll", 3, sew + 1, 6);
        due("vsll", ones, 0, ones);
        due("vsll", 1, ones, least);
        due("vsrl", least, sew - 1, 1);
        due("vsrl", least, sew, least);
        due("vsrl", least, sew + 1, least >> 1);
        due("vsrl", ones, ones, 1);
        due("vsra", least, sew - 1, ones);
        due("vsra", most, sew - 1, 0);
        due("vsra", least, sew, least);
        due("vsra", least, ones, ones);
        sentence = "Of shifts the number is without sign";
        one("vsll", "vi", 1, 31, least, NO_SATURATION);
        one("vsrl", "vi", least, 31, 1, NO_SATURATION);
        one("vsra", "vi", least, 31, ones, NO_SATURATION);
        one("vsll", "vi", 1, 16, sew == 32 ? 0x10000 : 1, NO_SATURATION);
    }

    private void products() {
        sentence = "vmul vmulh vmulhu vmulhsu VX (vs2 s, the other one without)";
        due("vmul", ones, ones, 1);
        due("vmul", least, least, 0);
        due("vmul", most, 2, ones - 1);
        due("vmulh", least, least, least >> 1);
        due("vmulh", ones, ones, 0);
        due("vmulh", least, most, ones - (least >> 1) + 1);
        due("vmulh", ones, 1, ones);
        due("vmulhu", ones, ones, ones - 1);
        due("vmulhu", least, 2, 1);
        due("vmulhu", least, 1, 0);
        due("vmulhsu", ones, ones, ones);
        due("vmulhsu", 1, ones, 0);
        due("vmulhsu", least, ones, least);
        due("vmulhsu", ones, least, ones);
        due("vmulhsu", most, ones, most - 1);
    }

    private void quotients() {
        sentence = "vdivu vdiv vremu vrem VX (by 0: all ones, the first one)";
        for (long a : new long[] {0, 5, most, least, ones}) {
            due("vdivu", a, 0, ones);
            due("vdiv", a, 0, ones);
            due("vremu", a, 0, a);
            due("vrem", a, 0, a);
        }
        sentence = "vdiv vrem (the least by -1: itself, 0)";
        due("vdiv", least, ones, least);
        due("vrem", least, ones, 0);
        sentence = "vdivu vdiv vremu vrem VX";
        due("vdivu", least, ones, 0);
        due("vremu", least, ones, least);
        due("vdivu", ones, 1, ones);
        due("vdivu", ones, ones, 1);
        due("vdiv", least + 1, ones, most);
        due("vdiv", most, ones, least + 1);
        due("vdiv", ones - 6, 2, ones - 2);
        due("vrem", ones - 6, 2, ones);
        due("vdiv", 7, ones - 1, ones - 2);
        due("vrem", 7, ones - 1, 1);
        due("vdiv", least, 1, least);
        due("vremu", 7, 7, 0);
    }

    private void productsAdded() {
        sentence = "vmacc vnmsac vmadd vnmsub VX";
        old = 3;
        due("vmacc", 5, 7, 38);
        due("vmadd", 5, 7, 26);
        due("vnmsac", 5, 7, ones + 1 - 32);
        due("vnmsub", 5, 7, ones + 1 - 16);
        old = ones;
        due("vmacc", 1, 1, 0);
        due("vmacc", ones, ones, 0);
        due("vmadd", 1, 1, 0);
        due("vnmsub", least, least, 0);
        old = most;
        due("vmacc", 1, 1, least);
        old = least;
        due("vnmsac", 1, 1, most);
        due("vmadd", 1, 2, 1);
        old = 0;
    }

    /** The mask's bit of element 0 is 1, of element 1 it is 0. */
    private void carries() {
        sentence = "vadc VXI, vsbc VX: the mask's bit comes in";
        carry("vadc", ones, 0, 0, ones);
        carry("vadc", ones, ones, ones, ones - 1);
        carry("vadc", most, 0, least, most);
        carry("vadc", 0, ones, 0, ones);
        carry("vsbc", 0, 0, ones, 0);
        carry("vsbc", 0, ones, 0, 1);
        carry("vsbc", least, 0, most, least);
    }

    private void carry(String name, long a, long b, long with, long without) {
        for (String letters : new String[] {"vvm", "vxm", "vim"}) {
            if (!Words.knows(name + "." + letters) || letters.equals("vim") && !isNumber(name, b)) {
                continue;
            }
            Bench t = carryBench(name + "." + letters, a, b);
            t.does(name + "." + letters + " v8, v16, " + second(letters, b) + ", v0");
            t.row(VD, sew, with, without, 0);
        }
    }

    private Bench carryBench(String name, long a, long b) {
        Bench t = bench(name + " " + a + ", " + b);
        t.put(0, 8, 0b01);
        t.put(VS2, sew, a, a);
        t.put(VS1, sew, b, b);
        t.x(1, inRegister(b));
        return t;
    }

    private String second(String letters, long b) {
        char which = letters.charAt(1);
        return which == 'v' ? "v24" : which == 'x' ? "x1" : "" + number("vadd", b);
    }

    private void carriesOut() {
        sentence = "vmadc VXI, vmsbc VX (vm 0 with it, 1 without: bits out)";
        out("vmadc", ones, 0, 1, 0);
        out("vmadc", ones, 1, 1, 1);
        out("vmadc", ones, ones, 1, 1);
        out("vmadc", most, most, 0, 0);
        out("vmadc", least, least, 1, 1);
        out("vmadc", ones - 1, 1, 1, 0);
        out("vmadc", 0, ones, 1, 0);
        out("vmsbc", 0, 0, 1, 0);
        out("vmsbc", 0, 1, 1, 1);
        out("vmsbc", 1, 1, 1, 0);
        out("vmsbc", 1, 0, 0, 0);
        out("vmsbc", 0, ones, 1, 1);
        out("vmsbc", ones, ones, 1, 0);
        out("vmsbc", ones, most, 0, 0);
    }

    private void out(String name, long a, long b, int with, int without) {
        for (String letters : new String[] {"vv", "vx", "vi"}) {
            if (!Words.knows(name + "." + letters) || letters.equals("vi") && !isNumber(name, b)) {
                continue;
            }
            Bench t = carryBench(name + "." + letters, a, b);
            t.does(name + "." + letters + "m v8, v16, " + second(letters, b) + ", v0");
            t.row(VD, 1, with, without);
            t.does(name + "." + letters + " v8, v16, " + second(letters, b));
            t.row(VD, 1, without, without);
        }
    }

    private void compares() {
        sentence = "vmseq vmsne vmsleu vmsle VXI, vmsltu vmslt VX, vmsgtu vmsgt XI: a mask";
        // operands, then what vmseq vmsne vmsltu vmslt vmsleu vmsle vmsgtu vmsgt answer
        mask(0, 0, 1, 0, 0, 0, 1, 1, 0, 0);
        mask(ones, ones, 1, 0, 0, 0, 1, 1, 0, 0);
        mask(least, least, 1, 0, 0, 0, 1, 1, 0, 0);
        mask(least, most, 0, 1, 0, 1, 0, 1, 1, 0);
        mask(most, least, 0, 1, 1, 0, 1, 0, 0, 1);
        mask(0, ones, 0, 1, 1, 0, 1, 0, 0, 1);
        mask(ones, 0, 0, 1, 0, 1, 0, 1, 1, 0);
        mask(1, 0, 0, 1, 0, 0, 0, 0, 1, 1);
        mask(ones - 1, ones, 0, 1, 1, 1, 1, 1, 0, 0);
        mask(ones - 15, ones - 16, 0, 1, 0, 0, 0, 0, 1, 1);
        mask(ones - 16, ones - 15, 0, 1, 1, 1, 1, 1, 0, 0);
        mask(16, 15, 0, 1, 0, 0, 0, 0, 1, 1);
    }

    private void mask(long a, long b, int... due) {
        String[] names = {"vmseq", "vmsne", "vmsltu", "vmslt", "vmsleu", "vmsle", "vmsgtu", "vmsgt"};
        for (int k = 0; k < names.length; k++) {
            for (String letters : new String[] {"vv", "vx", "vi"}) {
                String name = names[k] + "." + letters;
                if (!Words.knows(name) || letters.equals("vi") && !isNumber(name, b)) {
                    continue;
                }
                Bench t = carryBench(name, a, b);
                t.does(name + " v8, v16, " + second(letters, b));
                t.row(VD, 1, due[k], due[k], 0);
            }
        }
    }

    private void saturation() {
        sentence = "vsaddu vsadd VXI, vssubu vssub VX: at the ends that, and VXSAT 1";
        due("vsaddu", ones, 1, ones, SATURATION);
        due("vsaddu", ones, ones, ones, SATURATION);
        due("vsaddu", 1, ones, ones, SATURATION);
        due("vsaddu", ones - 1, 1, ones);
        due("vsaddu", 0, ones, ones);
        due("vsaddu", 0, 0, 0);
        due("vsaddu", most, 1, least);
        due("vsadd", most, 1, most, SATURATION);
        due("vsadd", most, most, most, SATURATION);
        due("vsadd", most - 1, 1, most);
        due("vsadd", least, ones, least, SATURATION);
        due("vsadd", least, least, least, SATURATION);
        due("vsadd", least + 1, ones, least);
        due("vsadd", least, most, ones);
        due("vsadd", ones, 1, 0);
        due("vssubu", 0, 1, 0, SATURATION);
        due("vssubu", most, least, 0, SATURATION);
        due("vssubu", 1, 1, 0);
        due("vssubu", ones, 0, ones);
        due("vssub", least, 1, least, SATURATION);
        due("vssub", least + 1, 1, least);
        due("vssub", most, ones, most, SATURATION);
        due("vssub", most - 1, ones, most);
        due("vssub", 0, least, most, SATURATION);
        due("vssub", ones, least, most);
        due("vssub", 0, 1, ones);
    }

    private void averages() {
        sentence = "vaaddu vaadd VX: halved, rounded by VXRM";
        rounded("vaaddu", 1, 0, 1, 0, 0, 1);
        rounded("vaaddu", 1, 2, 2, 2, 1, 1);
        rounded("vaaddu", 2, 3, 3, 2, 2, 3);
        rounded("vaaddu", ones, 0, least, least, most, most);
        rounded("vaaddu", ones, ones, ones, ones, ones, ones);
        rounded("vaaddu", ones, ones - 1, ones, ones - 1, ones - 1, ones);
        rounded("vaaddu", 4, 2, 3, 3, 3, 3);
        rounded("vaadd", ones, 0, 0, 0, ones, ones);
        rounded("vaadd", ones, ones - 1, ones, ones - 1, ones - 1, ones);
        rounded("vaadd", most, most, most, most, most, most);
        rounded("vaadd", least, least, least, least, least, least);
        rounded("vaadd", most, least, 0, 0, ones, ones);
        rounded("vaadd", most, most - 1, most, most - 1, most - 1, most);
        rounded("vaadd", least, least + 1, least + 1, least, least, least + 1);
    }

    private void averagesOfDifferences() {
        sentence = "vasubu vasub VX: halved, rounded by VXRM";
        rounded("vasubu", 0, 1, 0, 0, ones, ones);
        rounded("vasubu", 0, ones, least + 1, least, least, least + 1);
        rounded("vasubu", ones, 0, least, least, most, most);
        rounded("vasubu", 7, 7, 0, 0, 0, 0);
        rounded("vasubu", 5, 2, 2, 2, 1, 1);
        rounded("vasub", least, most, least + 1, least, least, least + 1);
        rounded("vasub", most, least, least, least, most, most);
        rounded("vasub", ones, 0, 0, 0, ones, ones);
        rounded("vasub", 0, ones, 1, 0, 0, 1);
        rounded("vasub", 1, ones - 1, 2, 2, 1, 1);
    }

    private void roundedShifts() {
        sentence = "vssrl vssra VXI: shifts, rounded";
        rounded("vssrl", 3, 1, 2, 2, 1, 1);
        rounded("vssrl", 1, 1, 1, 0, 0, 1);
        rounded("vssrl", 5, 1, 3, 2, 2, 3);
        rounded("vssrl", 7, 2, 2, 2, 1, 1);
        rounded("vssrl", 5, 2, 1, 1, 1, 1);
        rounded("vssrl", 9, 2, 2, 2, 2, 3);
        rounded("vssrl", 6, 2, 2, 2, 1, 1);
        rounded("vssrl", 4, 3, 1, 0, 0, 1);
        rounded("vssrl", 8, 2, 2, 2, 2, 2);
        rounded("vssrl", ones, sew - 1, 2, 2, 1, 1);
        rounded("vssrl", ones, sew, ones, ones, ones, ones);
        rounded("vssrl", ones, 0, ones, ones, ones, ones);
        rounded("vssra", least, sew - 1, ones, ones, ones, ones);
        rounded("vssra", ones, sew - 1, 0, 0, ones, ones);
        rounded("vssra", most, sew - 1, 1, 1, 0, 1);
        rounded("vssra", ones - 2, 1, ones, ones - 1, ones - 1, ones);
        rounded("vssra", ones, sew, ones, ones, ones, ones);
        sentence = "Of shifts the number is without sign";
        one("vssrl", "vi", ones, 31, 2, NO_SATURATION);
        one("vssra", "vi", least, 31, ones, NO_SATURATION);
    }

    private void fractions() {
        sentence = "vsmul VX: the product shifted by SEW - 1, rounded";
        rounded("vsmul", most, most, most - 1, most - 1, most - 1, most);
        rounded("vsmul", least, most, least + 1, least + 1, least + 1, least + 1);
        rounded("vsmul", most, least, least + 1, least + 1, least + 1, least + 1);
        rounded("vsmul", 1, least >> 1, 1, 0, 0, 1);
        rounded("vsmul", 3, least >> 1, 2, 2, 1, 1);
        rounded("vsmul", least, ones, 1, 1, 1, 1);
        rounded("vsmul", ones, ones, 0, 0, 0, 1);
        rounded("vsmul", ones, 1, 0, 0, ones, ones);
        rounded("vsmul", least, least + 1, most, most, most, most);
        sentence = "vsmul: the least by the least: the greatest, VXSAT 1";
        for (rounding = 0; rounding < 4; rounding++) {
            due("vsmul", least, least, most, SATURATION);
        }
        rounding = 0;
    }

    private void moves() {
        sentence = "vmerge VXI (where the mask is 1 the second, else vs2)";
        carry("vmerge", least, ones, ones, least);
        carry("vmerge", ones, ones - 15, ones - 15, ones);
        carry("vmerge", 3, 15, 15, 3);
        sentence = "vmv.v: of narrower SEW the lowest bits, numbers with sign";
        Bench t = bench("vmv.v");
        t.x(1, inRegister(least));
        t.does("vmv.v.x v8, x1");
        t.row(VD, sew, least, least, 0);
        t.does("vmv.v.i v8, -16");
        t.row(VD, sew, ones - 15, ones - 15, 0);
        t.does("vmv.v.i v8, 15");
        t.row(VD, sew, 15, 15, 0);
        t.does("vmv.v.x v8, x0");
        t.row(VD, sew, 0, 0, 0);
        t.put(VS1, sew, most, least, 5);
        t.does("vmv.v.v v8, v24");
        t.row(VD, sew, most, least, 0);
    }

    private void narrow() {
        sentence = "vnsrl vnsra VXI: shifted by the lowest bits of the second (one more than SEW's) and cut";
        wide("vnsrl", wideOnes, 2 * sew - 1, 1);
        wide("vnsrl", wideOnes, 2 * sew, ones);
        wide("vnsrl", 1L << sew, sew, 1);
        wide("vnsrl", 1L << sew, 0, 0);
        wide("vnsrl", 1L << sew, 2 * sew, 0);
        wide("vnsrl", wideLeast, sew, least);
        wide("vnsrl", wideOnes, ones, 1);
        wide("vnsra", wideLeast, 2 * sew - 1, ones);
        wide("vnsra", wideLeast, 2 * sew, 0);
        wide("vnsra", wideMost, 2 * sew - 1, 0);
        wide("vnsra", wideLeast, sew, least);
        wide("vnsra", wideLeast, ones, ones);
        one("vnsrl", "wi", wideOnes, 31, 1, NO_SATURATION);
        one("vnsra", "wi", wideLeast, 31, ones, NO_SATURATION);
    }

    private void clips() {
        sentence = "vnclipu vnclip VXI: rounded, at the ends that, VXSAT 1";
        wide("vnclipu", ones, 0, ones);
        wide("vnclipu", ones + 1, 0, ones, SATURATION);
        wide("vnclipu", wideOnes, 0, ones, SATURATION);
        wide("vnclipu", wideOnes, 2 * sew, ones, SATURATION);
        wide("vnclipu", 0, 0, 0);
        wide("vnclip", most, 0, most);
        wide("vnclip", most + 1, 0, most, SATURATION);
        wide("vnclip", wideMost, 0, most, SATURATION);
        wide("vnclip", wideOnes - most, 0, least);
        wide("vnclip", wideOnes - least, 0, least, SATURATION);
        wide("vnclip", wideLeast, 0, least, SATURATION);
        wide("vnclip", wideLeast, sew, least);
        wide("vnclip", wideLeast, 2 * sew - 1, ones);
        wide("vnclip", wideOnes, 0, ones);
        sentence = "vnclipu vnclip: it is the rounded number that ends are asked of";
        int[] saturated = {SATURATION, SATURATION, NO_SATURATION, NO_SATURATION};
        for (rounding = 0; rounding < 4; rounding++) {
            wide("vnclipu", wideOnes, sew, ones, saturated[rounding]);
            wide("vnclip", 2 * most + 1, 1, most, saturated[rounding]);
            wide("vnclipu", 1, 1, rounding == 0 || rounding == 3 ? 1 : 0);
            wide("vnclip", wideOnes, 1, rounding < 2 ? 0 : ones);
            // One below twice the least: the half is at the end, or one below it.
            wide("vnclip", wideOnes - 2 * least, 1, least, rounding < 2 ? NO_SATURATION : SATURATION);
        }
        rounding = 0;
    }

    private void wideSums() {
        sentence = "vwaddu vwadd vwsubu vwsub VX: of twice the SEW";
        due("vwaddu", ones, ones, 2 * ones);
        due("vwadd", ones, ones, wideOnes - 1);
        due("vwadd", least, least, wideOnes - ones);
        due("vwadd", most, most, 2 * most);
        due("vwadd", most, 1, least);
        due("vwsubu", 0, 1, wideOnes);
        due("vwsubu", 0, ones, wideOnes - ones + 1);
        due("vwsubu", ones, 0, ones);
        due("vwsub", least, most, wideOnes - ones + 1);
        due("vwsub", most, least, ones);
        due("vwsub", 0, ones, 1);
    }

    private void wideOperands() {
        sentence = "The .w ones (vs2 of twice the SEW)";
        wide("vwaddu", wideOnes, 1, 0);
        wide("vwaddu", 0, ones, ones);
        wide("vwaddu", wideLeast, ones, wideLeast + ones);
        wide("vwadd", wideMost, 1, wideLeast);
        wide("vwadd", 0, ones, wideOnes);
        wide("vwadd", wideLeast, ones, wideMost);
        wide("vwsubu", 0, ones, wideOnes - ones + 1);
        wide("vwsubu", 0, 1, wideOnes);
        wide("vwsub", 0, ones, 1);
        wide("vwsub", wideLeast, 1, wideMost);
        wide("vwsub", wideMost, ones, wideLeast);
    }

    private void wideProducts() {
        sentence = "vwmulu vwmul vwmulsu VX (vs2 s)";
        due("vwmulu", ones, ones, ones * ones);
        due("vwmul", ones, ones, 1);
        due("vwmul", least, least, least * least);
        due("vwmul", least, most, wideOnes + 1 - least * most);
        due("vwmulsu", ones, ones, wideOnes + 1 - ones);
        due("vwmulsu", 1, ones, ones);
        due("vwmulsu", least, ones, wideOnes + 1 - least * ones);
        sentence = "vwmaccu vwmacc vwmaccsu VX (vs1 s), vwmaccus X (vs2 s)";
        due("vwmaccu", ones, ones, ones * ones);
        due("vwmacc", least, least, least * least);
        due("vwmaccsu", ones, ones, wideOnes + 1 - ones);
        due("vwmaccsu", ones, 1, ones);
        due("vwmaccsu", 1, ones, wideOnes);
        due("vwmaccus", ones, ones, wideOnes + 1 - ones);
        due("vwmaccus", 1, ones, ones);
        due("vwmaccus", ones, 1, wideOnes);
        old = wideOnes;
        due("vwmaccu", 1, 1, 0);
        due("vwmaccsu", 1, ones, wideOnes - 1);
        due("vwmaccus", 1, 1, 0);
        old = wideMost;
        due("vwmacc", 1, 1, wideLeast);
        due("vwmacc", ones, 1, wideMost - 1);
        old = 0;
    }

    private static void extensions() {
        for (String of : new String[] {"16 2 8", "32 2 16", "32 4 8"}) {
            String[] cells = of.split(" ");
            int to = Integer.parseInt(cells[0]);
            int from = Integer.parseInt(cells[2]);
            long least = 1L << (from - 1);
            Bench b = new Bench("vzext vsext .vf" + cells[1] + " of " + to, "e" + to + ", m1, tu, mu", 4);
            b.put(VS2, from, least, least - 1, 2 * least - 1, 0);
            b.does("vzext.vf" + cells[1] + " v8, v16");
            b.row(VD, to, least, least - 1, 2 * least - 1, 0);
            b.does("vsext.vf" + cells[1] + " v8, v16");
            b.row(VD, to, -least, least - 1, -1, 0);
        }
    }

    private static void saturationStays() {
        Bench b = new Bench("VXSAT 1: it stays", "e8, m1, tu, mu", 2);
        b.put(VS2, 8, 0x7F, 1, 0x7F);
        b.does("vsadd.vi v8, v16, 1");
        b.is(Bench.VXSAT, 1);
        b.does("vsadd.vi v8, v16, 0");
        b.is(Bench.VXSAT, 1);
        b.set(Bench.VXSAT, 0);
        b.does("vsadd.vi v8, v16, 0");
        b.is(Bench.VXSAT, 0);
        b.put(0, 8, 0b110);
        b.does("vsadd.vi v8, v16, 1, v0.t");
        b.row(VD, 8, 0x7F, 2, 0);
        b.is(Bench.VXSAT, 0);
        Bench tail = new Bench("VXSAT 1: not for what stands behind VL", "e8, m1, ta, ma", 2);
        tail.choose(-1);
        tail.put(VS2, 8, 1, 1, 0x7F);
        tail.does("vsadd.vi v8, v16, 1");
        tail.row(VD, 8, 2, 2, 0xFF);
        tail.is(Bench.VXSAT, 0);
        Bench clip = new Bench("VXSAT 1: one element is enough", "e8, m1, tu, mu", 2);
        clip.put(VS2, 16, 0, 256);
        clip.does("vnclipu.wi v8, v16, 0");
        clip.row(VD, 8, 0, 255);
        clip.is(Bench.VXSAT, 1);
    }
}
