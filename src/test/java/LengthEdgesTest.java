/** Promises 2 and 3: the edges of VTYPE and of vsetvli, vsetivli, vsetvl, a sentence each. */
public final class LengthEdgesTest {
    private static final int VILL = Integer.MIN_VALUE;

    private LengthEdgesTest() {
    }

    public static void main(String[] args) {
        mostElements();
        sewAgainstLmul();
        unknownCodes();
        anotherBit();
        illHasNoLength();
        atMostVlmax();
        atLeastTwiceVlmax();
        between();
        choicesHaveNoSign();
        noEnd();
        stays();
        staysNot();
        numberItself();
        resultRegister();
        startBecomesZero();
        noSuchWord();
        Check.end();
    }

    private static void mostElements() {
        String sentence = "VLMAX is LMUL times 128 by SEW";
        String[] types = {
            "e8, mf4", "e8, mf2", "e8, m1", "e8, m2", "e8, m4", "e8, m8", "e16, mf2", "e16, m1", "e16, m2", "e16, m4",
            "e16, m8", "e32, m1", "e32, m2", "e32, m4", "e32, m8",
        };
        int[] most = {4, 8, 16, 32, 64, 128, 4, 8, 16, 32, 64, 4, 8, 16, 32};
        for (int k = 0; k < types.length; k++) {
            Bench b = new Bench(sentence + ": " + types[k]);
            b.does("vsetvli x1, x0, " + types[k]);
            b.isX(1, most[k]);
            b.is(Bench.VLMAX, most[k]);
            b.is(Bench.VL, most[k]);
        }
    }

    private static void sewAgainstLmul() {
        String sentence = "It is VILL if SEW is more than 32 times LMUL";
        for (String type : new String[] {"e16, mf4", "e32, mf4", "e32, mf2"}) {
            becomesIll(sentence + ": " + type, Words.of("vsetvli x1, x0, " + type));
        }
        for (String type : new String[] {"e8, mf4", "e16, mf2", "e32, m1"}) {
            Bench b = new Bench(sentence + ": not " + type);
            b.does("vsetvli x1, x0, " + type + ", ta, ma");
            b.is(Bench.VLMAX, 4);
        }
    }

    private static void unknownCodes() {
        for (int sew = 3; sew < 8; sew++) {
            for (int lmul = 0; lmul < 8; lmul++) {
                becomesIll("It is VILL if SEW is none of these: " + sew, Asm.vsetvli(1, 0, sew << 3 | lmul));
            }
        }
        for (int sew = 0; sew < 3; sew++) {
            becomesIll("It is VILL if LMUL is none of these: 4", Asm.vsetvli(1, 0, sew << 3 | 4));
            becomesIll("It is VILL if LMUL is none of these: 5", Asm.vsetvli(1, 0, sew << 3 | 5));
        }
    }

    private static void anotherBit() {
        String sentence = "It is VILL (that bit alone) if another bit is set";
        for (int bit = 8; bit < 11; bit++) {
            becomesIll(sentence + ": vsetvli " + bit, Asm.vsetvli(1, 0, 1 << bit | 0xC0));
        }
        for (int bit = 8; bit < 10; bit++) {
            becomesIll(sentence + ": vsetivli " + bit, Asm.vsetivli(1, 3, 1 << bit | 0xC0));
        }
        for (int bit = 8; bit < 32; bit++) {
            Bench b = new Bench(sentence + ": vsetvl " + bit, "e8, m1", 3);
            b.x(2, 1 << bit | 0xC0);
            b.x(3, 2);
            b.does("vsetvl x1, x3, x2");
            isIll(b);
        }
        Bench b = new Bench("TA is bit 6, MA bit 7: neither is another bit", "e8, m1", 3);
        b.x(2, 0xC0);
        b.does("vsetvl x1, x0, x2");
        b.is(Bench.VTYPE, 0xC0);
    }

    private static void becomesIll(String sentence, int word) {
        Bench b = new Bench(sentence, "e8, m1", 3);
        b.x(1, 77);
        b.due("step", b.step(word), 0);
        isIll(b);
    }

    private static void isIll(Bench b) {
        b.is(Bench.VTYPE, VILL);
        b.is(Bench.VLMAX, 0);
        b.is(Bench.VL, 0);
        b.isX(1, 0);
    }

    private static void illHasNoLength() {
        Bench b = new Bench("If it is VILL: VL 0", "e8, m1", 9);
        b.x(1, 77);
        b.x(2, 5);
        b.does("vsetvli x1, x2, e64, m1");
        isIll(b);
        b.is(Bench.ILLEGAL, 0);
        b.is(Bench.DONE, 2);
        b.does("vsetivli x1, 5, e8, m1");
        b.is(Bench.VTYPE, 0);
        b.isX(1, 5);
    }

    private static void atMostVlmax() {
        for (int avl : new int[] {0, 1, 15, 16}) {
            lengthOf("AVL at most VLMAX: VL is AVL", avl, -1L, avl);
        }
    }

    private static void atLeastTwiceVlmax() {
        // CHOICES of 1 would show as one less than VLMAX, were they asked.
        for (int avl : new int[] {32, 33, 1000, Integer.MAX_VALUE}) {
            lengthOf("AVL at least twice VLMAX: VLMAX", avl, 1, 16);
        }
        for (int avl : new int[] {-1, -2, -16, Integer.MIN_VALUE, Integer.MIN_VALUE + 1}) {
            lengthOf("AVL is without sign", avl, 1, 16);
        }
    }

    private static void between() {
        String sentence = "Between: the least number not below half of AVL and, besides, the CHOICES modulo how many";
        lengthOf(sentence, 17, 0, 9);
        lengthOf(sentence, 17, 7, 16);
        lengthOf(sentence, 17, 8, 9);
        lengthOf(sentence, 18, 0, 9);
        lengthOf(sentence, 19, 0, 10);
        lengthOf(sentence, 24, 4, 16);
        lengthOf(sentence, 24, 5, 12);
        lengthOf(sentence, 29, 0, 15);
        lengthOf(sentence, 29, 1, 16);
        lengthOf(sentence, 29, 2, 15);
        lengthOf(sentence, 30, 1, 16);
        lengthOf(sentence, 31, 0, 16);
        lengthOf(sentence, 31, 1, 16);
        lengthOf(sentence, 31, -1L, 16);
    }

    private static void choicesHaveNoSign() {
        String sentence = "The CHOICES are without sign";
        // 2 to the 64th less 1 is 3 times 5 times 17 times ..: modulo 7 it leaves 1, modulo 5 nothing; with sign it is -1.
        lengthOf(sentence, 20, -1L, 10 + 1);
        lengthOf(sentence, 24, -1L, 12);
        // 2 to the 63rd: modulo 7 it leaves 1, modulo 5 it leaves 3.
        lengthOf(sentence, 20, Long.MIN_VALUE, 10 + 1);
        lengthOf(sentence, 24, Long.MIN_VALUE, 12 + 3);
        lengthOf(sentence, 24, Long.MAX_VALUE, 12 + 2);
        lengthOf("The CHOICES have 64 bits", 24, 1L << 32, 12 + 1);
    }

    /** Of e8, m1, whose VLMAX is 16, by vsetvli and vsetvl. */
    private static void lengthOf(String sentence, int avl, long choices, int vl) {
        Bench b = new Bench(sentence + ": AVL " + avl + ", CHOICES " + choices);
        b.choose(choices);
        b.x(5, avl);
        b.does("vsetvli x1, x5, e8, m1");
        b.isX(1, vl);
        b.is(Bench.VL, vl);
        b.does("vsetivli x0, 0, e8, m1");
        b.does("vsetvl x2, x5, x0");
        b.isX(2, vl);
        b.is(Bench.VL, vl);
    }

    private static void noEnd() {
        Bench b = new Bench("AVL with rs1 x0: no end, if rd is not x0", "e8, m1", 3);
        b.choose(1);
        b.does("vsetvli x1, x0, e8, m8");
        b.isX(1, 128);
        b.x(2, 16);
        b.does("vsetvl x1, x0, x2");
        b.isX(1, 4);
        b.is(Bench.VL, 4);
    }

    private static void stays() {
        String sentence = "With rs1 and rd x0: VL stays, if VLMAX is as before";
        for (int vl : new int[] {0, 3, 8}) {
            Bench b = new Bench(sentence, "e8, mf2", vl);
            b.does("vsetvli x0, x0, e32, m2, ta, ma");
            b.is(Bench.VL, vl);
            b.is(Bench.VTYPE, 0xD1);
            b.is(Bench.VLMAX, 8);
            b.x(2, 8);
            b.does("vsetvl x0, x0, x2");
            b.is(Bench.VL, vl);
            b.is(Bench.VTYPE, 8);
        }
    }

    private static void staysNot() {
        String sentence = "With rs1 and rd x0: else it is VILL now";
        for (String type : new String[] {"e8, m1", "e8, mf4", "e32, m1", "e64, m8"}) {
            Bench b = new Bench(sentence + ": " + type, "e8, mf2", 3);
            b.does("vsetvli x0, x0, " + type);
            isIll(b);
        }
        Bench none = new Bench(sentence + ": with VL 0", "e8, mf2", 0);
        none.does("vsetvli x0, x0, e8, m1");
        isIll(none);
        Bench was = new Bench(sentence + ": it was VILL");
        was.does("vsetvli x0, x0, e8, m1");
        isIll(was);
        was.does("vsetvl x0, x0, x0");
        isIll(was);
        was.does("vsetvli x0, x0, e64, m1");
        isIll(was);
    }

    private static void numberItself() {
        Bench b = new Bench("vsetivli: the number itself", "e8, m1", 9);
        b.x(31, 1000);
        b.does("vsetivli x1, 31, e8, m2");
        b.isX(1, 31);
        b.does("vsetivli x1, 16, e8, m1");
        b.isX(1, 16);
        b.does("vsetivli x0, 0, e8, m1");
        b.is(Bench.VL, 0);
        b.does("vsetivli x1, 0, e8, m8");
        b.isX(1, 0);
        b.is(Bench.VLMAX, 128);
        b.choose(2);
        b.does("vsetivli x1, 5, e32, m1");
        b.isX(1, 3);
        b.does("vsetivli x1, 6, e32, m1");
        b.isX(1, 3);
        b.does("vsetivli x1, 8, e32, m1");
        b.isX(1, 4);
    }

    private static void resultRegister() {
        Bench b = new Bench("x[rd] becomes VL");
        b.x(1, 40);
        b.does("vsetvli x1, x1, e8, m1");
        b.isX(1, 16);
        b.x(2, 17);
        b.x(3, 5);
        b.does("vsetvl x2, x3, x2");
        b.isX(2, 5);
        b.is(Bench.VTYPE, 17);
        b.does("vsetvli x0, x3, e8, m1");
        b.isX(0, 0);
        b.is(Bench.VL, 5);
        b.does("vsetvli x31, x0, e8, m1");
        b.isX(31, 16);
    }

    private static void startBecomesZero() {
        String[] texts = {
            "vsetvli x1, x0, e8, m1", "vsetvli x0, x0, e8, m1", "vsetvli x0, x0, e8, m2", "vsetvli x1, x0, e64, m1",
            "vsetivli x1, 3, e8, m1", "vsetvl x1, x2, x0", "vsetvl x0, x0, x0",
        };
        for (String text : texts) {
            Bench b = new Bench("vset..: VSTART 0", "e8, m1", 3);
            b.set(Bench.VSTART, 127);
            b.set(Bench.VXRM, 3);
            b.set(Bench.VXSAT, 1);
            b.does(text);
            b.is(Bench.VSTART, 0);
            b.is(Bench.VXRM, 3);
            b.is(Bench.VXSAT, 1);
        }
    }

    private static void noSuchWord() {
        for (int bit = 25; bit < 30; bit++) {
            Bench b = new Bench("ILLEGAL is what stands not below: vsetvl with bit " + bit, "e8, m1", 3);
            b.set(Bench.VSTART, 2);
            b.x(1, 77);
            b.refuses("vsetvl", Words.of("vsetvl x1, x2, x3") | 1 << bit);
            b.isX(1, 77);
        }
    }
}
