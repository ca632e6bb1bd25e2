/** Promise 2, vsetvli, vsetivli, vsetvl, and promise 3 as far as lengths go. */
public final class LengthTest {
    private static final int VILL = Integer.MIN_VALUE;

    private LengthTest() {
    }

    public static void main(String[] args) {
        types();
        typesOfRegister();
        lengths();
        choices();
        stays();
        numbers();
        others();
        Check.end();
    }

    /** VLMAX by LMUL in quarters, or 0. */
    private static int vlmaxOf(int vtype) {
        int[] quarters = {4, 8, 16, 32, 0, 0, 1, 2};
        int sewCode = (vtype >> 3) & 7;
        int q = quarters[vtype & 7];
        if ((vtype >>> 8) != 0 || sewCode > 2 || q == 0) {
            return 0;
        }
        int sew = 8 << sewCode;
        return 4 * sew > 32 * q ? 0 : q * 32 / sew;
    }

    private static void types() {
        for (int vtype = 0; vtype < 2048; vtype++) {
            StripMachine m = new StripMachine();
            m.setState(2, 5);
            Check.due("vsetvli " + vtype, m.step(Asm.vsetvli(3, 0, vtype)), 0);
            int most = vlmaxOf(vtype);
            Check.due("VLMAX of " + vtype, m.state(5), most);
            Check.due("VTYPE of " + vtype, m.state(1), most == 0 ? VILL : vtype);
            Check.due("VL of " + vtype, m.state(0), most);
            Check.due("x3 of " + vtype, m.x(3), most);
            Check.due("VSTART of " + vtype, m.state(2), 0);
            if (vtype < 1024) {
                Check.due("vsetivli " + vtype, m.step(Asm.vsetivli(4, 1, vtype)), 0);
                Check.due("VTYPE by vsetivli " + vtype, m.state(1), most == 0 ? VILL : vtype);
                Check.due("x4 of " + vtype, m.x(4), most == 0 ? 0 : 1);
            }
        }
        Check.due("e8 m8", vlmaxOf(3), 128);
        Check.due("e8 mf4", vlmaxOf(6), 4);
        Check.due("e16 mf4", vlmaxOf(14), 0);
        Check.due("e32 m1", vlmaxOf(16), 4);
    }

    private static void typesOfRegister() {
        for (int bit = 0; bit < 32; bit++) {
            StripMachine m = new StripMachine();
            m.setX(6, 1 << bit);
            Check.due("vsetvl of bit " + bit, m.step(Asm.vsetvl(3, 0, 6)), 0);
            Check.due("VTYPE of bit " + bit, m.state(1), vlmaxOf(1 << bit) == 0 ? VILL : 1 << bit);
            Check.due("VL of bit " + bit, m.x(3), vlmaxOf(1 << bit));
        }
        StripMachine m = new StripMachine();
        m.setX(6, -1);
        m.setX(3, 9);
        Check.due("vsetvl of all bits", m.step(Asm.vsetvl(3, 3, 6)), 0);
        Check.due("its VTYPE", m.state(1), VILL);
        Check.due("its x3", m.x(3), 0);
        Check.due("vsetvl of x0", m.step(Asm.vsetvl(3, 0, 0)), 0);
        Check.due("VTYPE of x0", m.state(1), 0);
        Check.due("x3 of x0", m.x(3), 16);
    }

    private static void lengths() {
        int[] types = {0, 3, 6, 16, 9, 0xC8};
        for (int vtype : types) {
            int most = vlmaxOf(vtype);
            for (int avl = 0; avl <= 2 * most + 2; avl++) {
                int vl = avl <= most ? avl : avl >= 2 * most ? most : (avl + 1) / 2;
                askFor(vtype, avl, 0, vl);
            }
            askFor(vtype, -1, 0, most);
            askFor(vtype, VILL, 0, most);
            askFor(vtype, Integer.MAX_VALUE, 0, most);
        }
    }

    private static void choices() {
        long[] many = {1, 2, 3, 7, 12, -1L, Long.MIN_VALUE, Long.MAX_VALUE, 0x123456789ABCDEF1L, -77};
        for (int vtype : new int[] {0, 3, 16, 2}) {
            int most = vlmaxOf(vtype);
            for (int avl = most - 1; avl <= 2 * most; avl++) {
                for (long choice : many) {
                    int least = (avl + 1) / 2;
                    int open = most - least + 1;
                    java.math.BigInteger whole = new java.math.BigInteger(Long.toUnsignedString(choice));
                    int between = least + whole.mod(java.math.BigInteger.valueOf(open)).intValue();
                    askFor(vtype, avl, choice, avl <= most ? avl : avl >= 2 * most ? most : between);
                }
            }
        }
    }

    private static void askFor(int vtype, int avl, long choice, int vl) {
        StripMachine m = new StripMachine();
        m.choose(choice);
        m.setX(5, avl);
        m.setX(6, vtype);
        String what = "vtype " + vtype + " AVL " + avl + " choices " + choice;
        m.step(Asm.vsetvli(1, 5, vtype));
        Check.due(what, m.x(1), vl);
        Check.due(what + " VL", m.state(0), vl);
        m.step(Asm.vsetvl(5, 5, 6));
        Check.due(what + " by vsetvl", m.x(5), vl);
        m.setX(5, avl);
        m.step(Asm.vsetvli(0, 5, vtype));
        Check.due(what + " to x0", m.state(0), vl);
        Check.due("x0", m.x(0), 0);
    }

    private static void stays() {
        for (int before = 0; before < 256; before++) {
            for (int after = 0; after < 256; after += 7) {
                StripMachine m = new StripMachine();
                m.setX(5, 3);
                m.step(Asm.vsetvli(0, 5, before));
                m.setState(2, 1);
                m.setX(6, after);
                m.step((before & 1) == 0 ? Asm.vsetvli(0, 0, after) : Asm.vsetvl(0, 0, 6));
                boolean same = vlmaxOf(before) != 0 && vlmaxOf(before) == vlmaxOf(after);
                int vl = vlmaxOf(before) >= 3 ? 3 : 2;
                Check.due("VL stays " + before + " " + after, m.state(0), same ? vl : 0);
                Check.due("VTYPE " + before + " " + after, m.state(1), same ? after : VILL);
                Check.due("VSTART " + before + " " + after, m.state(2), 0);
            }
        }
    }

    private static void numbers() {
        for (int number = 0; number < 32; number++) {
            StripMachine m = new StripMachine();
            m.choose(2);
            Check.due("vsetivli", m.step(Asm.vsetivli(1, number, 0)), 0);
            int vl = number <= 16 ? number : (number + 1) / 2 + 2 % (16 - (number + 1) / 2 + 1);
            Check.due("vsetivli of " + number, m.x(1), vl);
            m.step(Asm.vsetivli(0, number, 0));
            Check.due("vsetivli to x0 of " + number, m.state(0), vl);
        }
    }

    private static void others() {
        for (int high = 1; high < 64; high++) {
            StripMachine m = new StripMachine();
            m.setState(2, 3);
            boolean isNumber = high >= 32;
            Check.due("bits 30 .. 25: " + high, m.step(Asm.vsetvl(3, 0, 0) | high << 25), isNumber ? 0 : 1);
            Check.due("illegal: " + high, m.state(7), isNumber ? 0 : 1);
            Check.due("done: " + high, m.state(6), isNumber ? 1 : 0);
            Check.due("VSTART: " + high, m.state(2), isNumber ? 0 : 3);
        }
    }
}
