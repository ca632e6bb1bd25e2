/** Promise 2: the edges of what is ILLEGAL, a sentence each: words just inside, and words just outside. */
public final class IllegalEdgesTest {
    private static final int VM = 1 << 25;

    private IllegalEdgesTest() {
    }

    public static void main(String[] args) {
        nothingChanges();
        noSuchWord();
        noSuchMemoryWord();
        bit25();
        ill();
        emulAboveEight();
        emulBelowOne();
        numberOfAGroup();
        numberByItsOwnEmul();
        numberOfSingles();
        numbersOfNoRegister();
        numberOfWholes();
        eewAbove32();
        eewBelow8();
        maskedTarget();
        maskedTargetAllowed();
        oneEew();
        lowerEew();
        higherEew();
        overlapOfLoads();
        reductions();
        apart();
        startNotZero();
        asksBeforeLength();
        Check.end();
    }

    private static void refused(String sentence, String type, String... texts) {
        for (String text : texts) {
            refusedWord(sentence, type, text, Words.of(text));
        }
    }

    private static void refusedWord(String sentence, String type, String text, int word) {
        Bench b = busy(sentence + ", " + type, type);
        b.refuses(text, word);
    }

    private static void done(String sentence, String type, String... texts) {
        for (String text : texts) {
            Bench b = busy(sentence + ", not " + type, type);
            b.does(text);
            b.is(Bench.ILLEGAL, 0);
        }
    }

    /** In its registers, tails and masked off elements every instruction that is done leaves a trace. */
    private static Bench busy(String sentence, String type) {
        Bench b = new Bench(sentence, type + ", ta, ma", 3);
        b.choose(-1);
        for (int k = 0; k < 128; k++) {
            b.machine().setV(k, 0x01020304 + 0x10 * k);
        }
        // Indices of all widths stay within the memory.
        for (int k = 32; k < 128; k++) {
            b.machine().setV(k, k & 63);
        }
        return b;
    }

    private static void nothingChanges() {
        String[] texts = {
            "vadd.vv v9, v16, v24", "vadd.vi v0, v16, 1, v0.t", "vwadd.vv v8, v8, v24", "vredsum.vs v8, v17, v24",
            "vcpop.m x3, v16", "vfirst.m x3, v16", "viota.m v8, v16", "vcompress.vm v8, v16, v24", "vslideup.vi v8, v8, 1",
            "vsadd.vi v9, v16, 1", "vmv2r.v v9, v16", "vle8.v v9, (x1)", "vse8.v v9, (x1)", "vl2re8.v v9, (x1)",
            "vs2r.v v9, (x1)", "vle8.v v9, (x2)", "vse8.v v9, (x2)", "vle64.v v8, (x1)", "vse64.v v8, (x1)",
        };
        for (String text : texts) {
            Bench b = busy("AN INSTRUCTION THAT IS ILLEGAL changes nothing (VSTART, too): " + text, "e8, m2");
            b.set(Bench.VSTART, 1);
            b.x(1, 128);
            b.x(2, 4096);
            b.x(3, 77);
            b.word(32, 0x01020304);
            b.refuses(text);
            b.isX(1, 128);
            b.isX(2, 4096);
            b.isX(3, 77);
            b.isWord(32, 0x01020304);
            b.isWord(33, 0);
        }
    }

    private static void noSuchWord() {
        String sentence = "ILLEGAL is what stands not below";
        // Bits 31 .. 26 and the form: operations in a form that they have not, and numbers of no operation.
        int[][] words = {
            {2, Asm.IVI}, {3, Asm.IVV}, {4, Asm.IVI}, {7, Asm.IVI}, {15, Asm.IVV}, {19, Asm.IVI}, {26, Asm.IVI}, {27, Asm.IVI},
            {30, Asm.IVV}, {31, Asm.IVV}, {34, Asm.IVI}, {35, Asm.IVI}, {48, Asm.IVX}, {49, Asm.IVX}, {0, Asm.MVX},
            {7, Asm.MVX}, {8, Asm.IVV}, {14, Asm.MVV}, {15, Asm.MVV}, {23, Asm.MVX}, {25, Asm.MVX}, {18, Asm.MVX},
            {20, Asm.MVX}, {62, Asm.MVV}, {57, Asm.MVV}, {40, Asm.MVV}, {42, Asm.MVV}, {44, Asm.MVV}, {46, Asm.MVV},
            {12, Asm.MVV}, {13, Asm.MVV}, {1, Asm.IVV}, {8, Asm.IVX}, {13, Asm.IVV}, {20, Asm.IVV}, {21, Asm.IVV},
            {22, Asm.IVV}, {36, Asm.IVV}, {38, Asm.IVV}, {50, Asm.IVV}, {63, Asm.IVV}, {0, 1}, {0, 5}, {36, 1}, {63, 5},
        };
        for (int[] one : words) {
            int word = Asm.op(one[0], 1, 16, 24, one[1], 8);
            refusedWord(sentence, "e8, m1", "operation " + one[0] + " of form " + one[1], word);
        }
        for (int word : new int[] {0, -1, 0x13, 0x33, 0x3, 0x23, 0x73, Words.of("vadd.vv v8, v16, v24") ^ 1}) {
            refusedWord(sentence, "e8, m1", "word " + Integer.toHexString(word), word);
        }
        refusedWord("vmv.v (vs2 0)", "e8, m1", "vmv.v.v", Words.of("vmv.v.v v8, v24") | 1 << 20);
        refusedWord("vmv.v (vs2 0)", "e8, m1", "vmv.v.x", Words.of("vmv.v.x v8, x1") | 16 << 20);
        refusedWord("vmv.v (vs2 0)", "e8, m1", "vmv.v.i", Words.of("vmv.v.i v8, 1") | 31 << 20);
        refusedWord("vid (vs2 0)", "e8, m1", "vid.v", Words.of("vid.v v8") | 1 << 20);
        refusedWord("vmv.s.x", "e8, m1", "vmv.s.x", Words.of("vmv.s.x v8, x1") | 1 << 20);
    }

    private static void noSuchMemoryWord() {
        for (String text : new String[] {"vle8.v v8, (x0)", "vse8.v v8, (x0)", "vlse8.v v8, (x0), x0", "vluxei8.v v8, (x0), v16",
            "vsoxei8.v v8, (x0), v16", "vle8ff.v v8, (x0)", "vlm.v v8, (x0)", "vsm.v v8, (x0)"}) {
            done("LOADS, STORES (nf 0)", "e8, m1", text);
            for (int nf = 1; nf < 8; nf++) {
                refusedWord("LOADS, STORES (nf 0)", "e8, m1", text, Asm.fields(Words.of(text), nf));
            }
            refusedWord("LOADS, STORES (mew 0)", "e8, m1", text, Words.of(text) | 1 << 28);
        }
        refusedWord("vle..ff: there is no such store", "e8, m1", "vse8ff", Words.of("vle8ff.v v8, (x0)") | 0x20);
        refusedWord("vlm (EEW 8)", "e8, m1", "vlm of 16", Words.of("vlm.v v8, (x0)") | 5 << 12);
        refusedWord("vsm (EEW 8)", "e8, m1", "vsm of 32", Words.of("vsm.v v8, (x0)") | 6 << 12);
        for (int nf : new int[] {2, 4, 5, 6}) {
            refusedWord("nf of 1, 2, 4, 8 registers", "e8, m1", "vl" + (nf + 1) + "re8", Asm.fields(Words.of("vl1re8.v v0, (x0)"), nf));
            refusedWord("nf of 1, 2, 4, 8 registers", "e8, m1", "vs" + (nf + 1) + "r", Asm.fields(Words.of("vs1r.v v0, (x0)"), nf));
        }
        done("nf of 1, 2, 4, 8 registers", "e8, m1", "vl1re8.v v8, (x0)", "vl2re16.v v8, (x0)", "vl4re32.v v8, (x0)", "vl8re8.v v8, (x0)");
        done("nf of 1, 2, 4, 8 registers", "e8, m1", "vs1r.v v8, (x0)", "vs2r.v v8, (x0)", "vs4r.v v8, (x0)", "vs8r.v v8, (x0)");
        refusedWord("EEW 8 of vs", "e8, m1", "vs1r of 16", Words.of("vs1r.v v8, (x0)") | 5 << 12);
        refusedWord("EEW 8 of vs", "e8, m1", "vs1r of 32", Words.of("vs1r.v v8, (x0)") | 6 << 12);
        for (int second = 1; second < 32; second++) {
            if (second != 8 && second != 11 && second != 16) {
                refusedWord("ILLEGAL is what stands not below", "e8, m1", "load " + second, Asm.load(8, Asm.UNIT, 1, second, 0, 8));
                refusedWord("ILLEGAL is what stands not below", "e8, m1", "store " + second, Asm.store(8, Asm.UNIT, 1, second, 0, 8));
            }
        }
        for (int width = 1; width < 5; width++) {
            refusedWord("LOADS of EEW 8, 16, 32", "e8, m1", "width " + width, Words.of("vle8.v v8, (x0)") | width << 12);
            refusedWord("STORES of EEW 8, 16, 32", "e8, m1", "width " + width, Words.of("vse8.v v8, (x0)") | width << 12);
        }
    }

    private static void bit25() {
        String[] always = {
            "vmand.mm v8, v16, v24", "vmnand.mm v8, v16, v24", "vmandn.mm v8, v16, v24", "vmxor.mm v8, v16, v24",
            "vmor.mm v8, v16, v24", "vmnor.mm v8, v16, v24", "vmorn.mm v8, v16, v24", "vmxnor.mm v8, v16, v24",
            "vmv.x.s x3, v16", "vmv.s.x v8, x3", "vcompress.vm v8, v16, v24", "vmv1r.v v8, v16", "vmv2r.v v8, v16",
            "vmv4r.v v8, v16", "vmv8r.v v8, v16", "vlm.v v8, (x0)", "vsm.v v8, (x0)", "vl1re8.v v8, (x0)",
            "vl8re32.v v8, (x0)", "vs1r.v v8, (x0)", "vs8r.v v8, (x0)",
        };
        for (String text : always) {
            done("(vm 1)", "e8, m1", text);
            refusedWord("(vm 1)", "e8, m1", text, Words.of(text) ^ VM);
        }
        for (String text : new String[] {"vadc.vvm v8, v16, v24, v0", "vadc.vxm v8, v16, x1, v0", "vadc.vim v8, v16, 1, v0",
            "vsbc.vvm v8, v16, v24, v0", "vsbc.vxm v8, v16, x1, v0"}) {
            done("vadc, vsbc (vm 0)", "e8, m1", text);
            refusedWord("vadc, vsbc (vm 0)", "e8, m1", text, Words.of(text) | VM);
        }
        refusedWord("vmerge (vm 0)", "e8, m1", "vmerge.vvm", Words.of("vmerge.vvm v8, v16, v24, v0") | VM);
    }

    private static final String[] EVERY_KIND = {
        "vadd.vv v8, v16, v24", "vmseq.vi v8, v16, 1", "vadc.vvm v8, v16, v24, v0", "vmadc.vv v8, v16, v24",
        "vmerge.vim v8, v16, 1, v0", "vmv.v.i v8, 1", "vnsrl.wi v8, v16, 1", "vwadd.vv v8, v16, v24",
        "vwadd.wv v8, v16, v24", "vzext.vf2 v8, v16", "vredsum.vs v8, v16, v24", "vwredsum.vs v8, v16, v24",
        "vmand.mm v8, v16, v24", "vcpop.m x3, v16", "vfirst.m x3, v16", "vmsbf.m v8, v16", "viota.m v8, v16", "vid.v v8",
        "vmv.x.s x3, v16", "vmv.s.x v8, x3", "vslideup.vi v8, v16, 1", "vslidedown.vx v8, v16, x1",
        "vslide1up.vx v8, v16, x1", "vslide1down.vx v8, v16, x1", "vrgather.vv v8, v16, v24",
        "vrgatherei16.vv v8, v16, v24", "vcompress.vm v8, v16, v24", "vmv1r.v v8, v16", "vmv8r.v v8, v16",
        "vle8.v v8, (x0)", "vse8.v v8, (x0)", "vlse8.v v8, (x0), x0", "vsse8.v v8, (x0), x0", "vluxei8.v v8, (x0), v16",
        "vloxei8.v v8, (x0), v16", "vsuxei8.v v8, (x0), v16", "vsoxei8.v v8, (x0), v16", "vlm.v v8, (x0)",
        "vsm.v v8, (x0)", "vle8ff.v v8, (x0)",
    };

    private static void ill() {
        String sentence = "ILLEGAL are all but vset.. and loads and stores of whole registers, if VTYPE is VILL";
        for (String text : EVERY_KIND) {
            new Bench(sentence).refuses(text);
            Bench b = new Bench(sentence, "e8, m1", 3);
            b.does("vsetvli x1, x0, e64, m1");
            b.refuses(text);
        }
        for (String text : new String[] {"vl1re8.v v9, (x0)", "vl2re16.v v8, (x0)", "vl4re32.v v8, (x0)", "vl8re8.v v8, (x0)",
            "vs1r.v v9, (x0)", "vs2r.v v8, (x0)", "vs4r.v v8, (x0)", "vs8r.v v8, (x0)", "vsetvli x1, x0, e8, m1",
            "vsetivli x1, 3, e8, m1", "vsetvl x1, x2, x3"}) {
            new Bench(sentence).does(text);
        }
    }

    private static void emulAboveEight() {
        String sentence = "ILLEGAL is a group of EMUL above 8";
        done(sentence, "e8, m4", "vwadd.vv v8, v16, v20", "vwmul.vx v8, v16, x1", "vnsrl.wi v8, v16, 1", "vwadd.wx v8, v16, x1",
            "vle16.v v8, (x0)", "vse16.v v8, (x0)", "vluxei16.v v8, (x0), v16", "vsuxei16.v v8, (x0), v16",
            "vrgatherei16.vv v8, v16, v24", "vlse16.v v8, (x0), x0", "vle16ff.v v8, (x0)");
        refused(sentence, "e8, m8", "vwadd.vv v8, v16, v24", "vwmul.vx v8, v16, x1", "vnsrl.wi v8, v16, 1", "vwadd.wx v8, v16, x1",
            "vle16.v v8, (x0)", "vse16.v v8, (x0)", "vluxei16.v v8, (x0), v16", "vsuxei16.v v8, (x0), v16",
            "vrgatherei16.vv v8, v16, v24", "vlse16.v v8, (x0), x0", "vle16ff.v v8, (x0)");
        done(sentence, "e16, m4", "vwadd.vv v8, v16, v20", "vnclip.wx v8, v16, x1", "vle32.v v8, (x0)");
        refused(sentence, "e16, m8", "vwadd.vv v8, v16, v24", "vnclip.wx v8, v16, x1", "vle32.v v8, (x0)");
        done(sentence, "e8, m2", "vle32.v v8, (x0)", "vse32.v v8, (x0)", "vloxei32.v v8, (x0), v16", "vsoxei32.v v8, (x0), v16");
        refused(sentence, "e8, m4", "vle32.v v8, (x0)", "vse32.v v8, (x0)", "vloxei32.v v8, (x0), v16", "vsoxei32.v v8, (x0), v16");
        done("A mask's EMUL is 1", "e8, m8", "vmseq.vi v9, v16, 1", "vmand.mm v9, v10, v11", "vlm.v v9, (x0)", "vsm.v v9, (x0)");
        done("A single register's EMUL is 1", "e8, m8", "vwredsum.vs v9, v16, v11");
    }

    private static void emulBelowOne() {
        String sentence = "ILLEGAL is a group of EMUL below 1/8: 1/4 is the least that there is";
        done(sentence, "e32, m1", "vle8.v v9, (x0)", "vse8.v v9, (x0)", "vluxei8.v v9, (x0), v11", "vzext.vf4 v9, v11",
            "vsext.vf4 v9, v11", "vzext.vf2 v9, v11", "vrgatherei16.vv v9, v11, v13");
        done(sentence, "e16, mf2", "vle8.v v9, (x0)", "vluxei8.v v9, (x0), v11", "vzext.vf2 v9, v11");
        done(sentence, "e8, mf4", "vle8.v v9, (x0)", "vadd.vv v9, v11, v13", "vwadd.vv v9, v11, v13", "vnsrl.wv v9, v11, v13");
    }

    private static void numberOfAGroup() {
        String sentence = "ILLEGAL is a group whose number is no multiple of its EMUL";
        done(sentence, "e8, m1", "vadd.vv v31, v29, v27", "vadd.vv v1, v3, v5");
        done(sentence, "e8, mf2", "vadd.vv v31, v29, v27");
        done(sentence, "e8, mf4", "vadd.vv v31, v29, v27");
        done(sentence, "e8, m2", "vadd.vv v30, v28, v26", "vadd.vv v2, v6, v10", "vle8.v v30, (x0)", "vid.v v2", "vmv.v.i v2, 1");
        refused(sentence, "e8, m2", "vadd.vv v31, v28, v26", "vadd.vv v30, v29, v26", "vadd.vv v30, v28, v27", "vadd.vv v1, v2, v4",
            "vadd.vx v9, v16, x1", "vadd.vi v8, v17, 1", "vle8.v v31, (x0)", "vse8.v v31, (x0)", "vlse8.v v9, (x0), x0",
            "vsse8.v v9, (x0), x0", "vle8ff.v v9, (x0)", "vid.v v9", "vmv.v.i v9, 1", "vmv.v.v v8, v17",
            "vmerge.vvm v8, v16, v19, v0", "vadc.vvm v8, v17, v18, v0");
        done(sentence, "e8, m4", "vadd.vv v28, v24, v20", "vadd.vv v4, v12, v8");
        refused(sentence, "e8, m4", "vadd.vv v30, v24, v20", "vadd.vv v28, v26, v20", "vadd.vv v28, v24, v22", "vadd.vx v9, v16, x1",
            "vle8.v v10, (x0)", "vse8.v v10, (x0)");
        done(sentence, "e8, m8", "vadd.vv v24, v16, v8", "vadd.vv v0, v24, v16");
        refused(sentence, "e8, m8", "vadd.vv v28, v16, v8", "vadd.vv v24, v12, v8", "vadd.vv v24, v16, v4", "vadd.vx v20, v8, x1",
            "vle8.v v12, (x0)", "vse8.v v12, (x0)");
    }

    private static void numberByItsOwnEmul() {
        String sentence = "EMUL: LMUL times EEW by SEW";
        done(sentence, "e8, m1", "vwadd.vv v8, v17, v19", "vwadd.wv v8, v18, v19", "vnsrl.wv v9, v16, v19", "vle32.v v12, (x0)",
            "vse32.v v12, (x0)", "vluxei32.v v9, (x0), v20", "vrgatherei16.vv v9, v11, v16");
        refused(sentence, "e8, m1", "vwadd.vv v9, v16, v17", "vwadd.wv v8, v17, v19", "vwadd.wv v9, v16, v19",
            "vnsrl.wv v9, v17, v19", "vle32.v v10, (x0)", "vse32.v v10, (x0)", "vluxei32.v v9, (x0), v18",
            "vsoxei32.v v9, (x0), v18", "vluxei16.v v9, (x0), v17", "vrgatherei16.vv v9, v11, v17");
        done(sentence, "e16, m2", "vzext.vf2 v8, v17", "vluxei8.v v8, (x0), v17");
        refused(sentence, "e16, m2", "vzext.vf2 v9, v17", "vluxei8.v v9, (x0), v17");
        done(sentence, "e32, m8", "vzext.vf4 v8, v18", "vsext.vf2 v8, v20", "vrgatherei16.vv v8, v16, v28", "vle8.v v10, (x0)");
        refused(sentence, "e32, m8", "vzext.vf4 v8, v17", "vsext.vf2 v8, v18", "vrgatherei16.vv v8, v16, v30", "vle8.v v9, (x0)");
        done("A mask's EMUL is 1", "e8, m8", "vmseq.vi v9, v16, 1", "vmadc.vi v9, v16, 1", "vmand.mm v9, v11, v13", "vmsbf.m v9, v11",
            "viota.m v8, v17", "vcompress.vm v8, v16, v31");
        refused("A mask's EMUL is 1, its sources' is not", "e8, m8", "vmseq.vi v9, v12, 1", "vmadc.vi v9, v12, 1",
            "viota.m v9, v17", "vcompress.vm v12, v16, v31", "vcompress.vm v8, v20, v31");
    }

    private static void numberOfSingles() {
        String sentence = "Single elements and masks, whatever LMUL is";
        done(sentence, "e8, m8", "vmv.x.s x3, v9", "vmv.x.s x3, v31", "vmv.s.x v9, x3", "vmv.s.x v31, x3", "vcpop.m x3, v9",
            "vfirst.m x3, v31");
    }

    /** Bits 19 .. 15 of these, or 24 .. 20, choose an operation or hold a number. */
    private static void numbersOfNoRegister() {
        String sentence = "A destination group that has a register of a source group: these are no registers";
        done(sentence, "e32, m1", "vzext.vf4 v4, v16", "vsext.vf4 v5, v16", "vzext.vf2 v6, v16", "vsext.vf2 v7, v16",
            "vadd.vi v9, v16, 9", "vslideup.vi v9, v16, 9", "vrgather.vi v9, v16, 9", "vslideup.vx v9, v16, x9",
            "vslide1up.vx v9, v16, x9", "vrgather.vx v9, v16, x9", "vle8.v v1, (x1)", "vlse8.v v1, (x1), x1");
        done(sentence, "e32, m8", "vzext.vf4 v0, v16", "viota.m v16, v8", "vid.v v16", "vid.v v0", "vmv.v.i v0, 1",
            "vmv.v.x v0, x1", "vmv.v.v v0, v16", "vadd.vx v8, v16, x9", "vadd.vi v8, v16, 9", "vslideup.vi v8, v16, 9",
            "vslide1up.vx v8, v16, x9", "vrgather.vx v8, v16, x9", "vmseq.vi v9, v16, 8", "vmseq.vx v9, v16, x8",
            "vmadc.vx v9, v16, x8", "vle32.v v0, (x1)", "vlse32.v v0, (x1), x1", "vle32ff.v v16, (x1)");
        done(sentence, "e8, m1", "vmsbf.m v1, v16", "vmsof.m v2, v16", "vmsif.m v3, v16", "viota.m v16, v8", "vid.v v17",
            "vwadd.vx v8, v16, x8", "vlm.v v11, (x1)", "vmv1r.v v0, v16", "vmv2r.v v0, v16");
    }

    private static void numberOfWholes() {
        String sentence = "Whole registers: numbers are multiples of how many";
        done(sentence, "e8, m8", "vmv1r.v v9, v11", "vmv2r.v v30, v18", "vmv4r.v v28, v20", "vmv8r.v v24, v0", "vl1re8.v v31, (x0)",
            "vl2re8.v v30, (x0)", "vl4re8.v v28, (x0)", "vl8re8.v v24, (x0)", "vs1r.v v31, (x0)", "vs2r.v v30, (x0)",
            "vs4r.v v28, (x0)", "vs8r.v v24, (x0)");
        refused(sentence, "e8, mf4", "vmv2r.v v9, v16", "vmv2r.v v8, v17", "vmv4r.v v10, v16", "vmv4r.v v8, v18", "vmv8r.v v12, v16",
            "vmv8r.v v8, v20", "vl2re8.v v31, (x0)", "vl4re16.v v30, (x0)", "vl8re32.v v28, (x0)", "vs2r.v v31, (x0)",
            "vs4r.v v30, (x0)", "vs8r.v v28, (x0)");
    }

    private static void eewAbove32() {
        String sentence = "ILLEGAL is an EEW above 32";
        String[] texts = {
            "vwaddu.vv v8, v16, v24", "vwadd.vx v8, v16, x1", "vwsubu.vv v8, v16, v24", "vwsub.vx v8, v16, x1",
            "vwaddu.wv v8, v16, v24", "vwadd.wx v8, v16, x1", "vwsubu.wv v8, v16, v24", "vwsub.wx v8, v16, x1",
            "vwmulu.vv v8, v16, v24", "vwmul.vx v8, v16, x1", "vwmulsu.vv v8, v16, v24", "vwmaccu.vv v8, v16, v24",
            "vwmacc.vx v8, x1, v16", "vwmaccsu.vv v8, v16, v24", "vwmaccus.vx v8, x1, v16", "vnsrl.wv v8, v16, v24",
            "vnsra.wx v8, v16, x1", "vnclipu.wi v8, v16, 1", "vnclip.wv v8, v16, v24", "vwredsumu.vs v8, v16, v24",
            "vwredsum.vs v8, v16, v24",
        };
        done(sentence, "e16, m1", texts);
        refused(sentence, "e32, m1", texts);
        refused(sentence, "e32, m1", "vle64.v v8, (x0)", "vse64.v v8, (x0)", "vlse64.v v8, (x0), x0", "vluxei64.v v8, (x0), v16",
            "vsuxei64.v v8, (x0), v16", "vle64ff.v v8, (x0)", "vl1re64.v v8, (x0)", "vl2re64.v v8, (x0)");
    }

    private static void eewBelow8() {
        String sentence = "Elements of 8, 16, 32 bits";
        refused(sentence, "e8, m8", "vzext.vf2 v8, v16", "vsext.vf2 v8, v16", "vzext.vf4 v8, v16", "vsext.vf4 v8, v16");
        refused(sentence, "e16, m8", "vzext.vf4 v8, v16", "vsext.vf4 v8, v16");
        done(sentence, "e16, m8", "vzext.vf2 v8, v16", "vsext.vf2 v8, v16");
        done(sentence, "e32, m8", "vzext.vf4 v8, v16", "vsext.vf4 v8, v16");
        for (int selector : new int[] {0, 1, 2, 3, 8, 31}) {
            refusedWord("vzext vsext .vf2 .vf4 alone", "e32, m8", "selector " + selector, Asm.op(18, 1, 16, selector, Asm.MVV, 8));
        }
    }

    private static void maskedTarget() {
        String sentence = "ILLEGAL are masked ones (bit 25 is 0) whose destination group has v0";
        String[] texts = {
            "vadd.vi v0, v16, 1, v0.t", "vmul.vv v0, v16, v24, v0.t", "vmacc.vv v0, v16, v24, v0.t", "vsmul.vx v0, v16, x1, v0.t",
            "vslideup.vi v0, v16, 1, v0.t", "vslidedown.vi v0, v16, 1, v0.t", "vslide1up.vx v0, v16, x1, v0.t",
            "vslide1down.vx v0, v16, x1, v0.t", "vrgather.vi v0, v16, 1, v0.t", "vid.v v0, v0.t", "viota.m v0, v16, v0.t",
            "vle8.v v0, (x0), v0.t", "vlse8.v v0, (x0), x0, v0.t", "vluxei8.v v0, (x0), v16, v0.t",
            "vloxei8.v v0, (x0), v16, v0.t", "vle8ff.v v0, (x0), v0.t", "vmerge.vim v0, v16, 1, v0",
            "vadc.vim v0, v16, 1, v0", "vsbc.vxm v0, v16, x1, v0",
        };
        for (String type : new String[] {"e8, mf2", "e8, m1", "e8, m2", "e8, m8"}) {
            refused(sentence, type, texts);
        }
        refused(sentence, "e8, m1", "vwadd.vx v0, v16, x1, v0.t", "vnsrl.wi v0, v16, 1, v0.t", "vrgatherei16.vv v0, v16, v24, v0.t",
            "vmsbf.m v0, v16, v0.t", "vmsif.m v0, v16, v0.t", "vmsof.m v0, v16, v0.t", "vle32.v v0, (x0), v0.t");
        refused(sentence, "e16, m1", "vzext.vf2 v0, v16, v0.t", "vsext.vf2 v0, v16, v0.t");
        done(sentence, "e8, m1", "vadd.vi v1, v16, 1, v0.t", "vwadd.vx v2, v16, x1, v0.t", "vle8.v v1, (x0), v0.t",
            "vmsbf.m v1, v16, v0.t", "viota.m v1, v16, v0.t", "vid.v v31, v0.t", "vadd.vv v1, v0, v0, v0.t");
        done("Not masked ones", "e8, m1", "vadd.vi v0, v16, 1", "vle8.v v0, (x0)", "vid.v v0", "vmsbf.m v0, v16", "viota.m v0, v16",
            "vmv.v.i v0, 1", "vmand.mm v0, v16, v24", "vlm.v v0, (x0)", "vmv1r.v v0, v16", "vl1re8.v v0, (x0)",
            "vmv.s.x v0, x1", "vcompress.vm v0, v16, v24", "vwadd.vx v0, v16, x1");
    }

    private static void maskedTargetAllowed() {
        String sentence = "ILLEGAL are masked ones .. but compares and carries out, reductions";
        done(sentence, "e8, m1", "vmseq.vv v0, v16, v24, v0.t", "vmsne.vx v0, v16, x1, v0.t", "vmsltu.vv v0, v16, v24, v0.t",
            "vmslt.vx v0, v16, x1, v0.t", "vmsleu.vi v0, v16, 1, v0.t", "vmsle.vi v0, v16, 1, v0.t",
            "vmsgtu.vi v0, v16, 1, v0.t", "vmsgt.vx v0, v16, x1, v0.t", "vmadc.vvm v0, v16, v24, v0",
            "vmadc.vim v0, v16, 1, v0", "vmsbc.vxm v0, v16, x1, v0", "vredsum.vs v0, v16, v24, v0.t",
            "vredmaxu.vs v0, v16, v24, v0.t", "vwredsum.vs v0, v16, v24, v0.t", "vwredsumu.vs v0, v16, v24, v0.t");
        done("Stores have no destination", "e8, m1", "vse8.v v0, (x0), v0.t", "vsse8.v v0, (x0), x0, v0.t",
            "vsuxei8.v v0, (x0), v16, v0.t");
        done("x0 is not v0", "e8, m1", "vcpop.m x0, v16, v0.t", "vfirst.m x0, v16, v0.t");
    }

    private static void oneEew() {
        String sentence = "A destination group that has a register of a source group, but: of one EEW";
        done(sentence, "e8, m1", "vadd.vv v8, v8, v8", "vmacc.vv v8, v8, v8", "vwadd.wv v8, v8, v19", "vmand.mm v8, v8, v8",
            "vluxei8.v v8, (x0), v8", "vslidedown.vi v8, v8, 1", "vslide1down.vx v8, v8, x1", "vmv.v.v v8, v8",
            "vmerge.vvm v8, v8, v8, v0", "vmv1r.v v8, v8");
        done(sentence, "e8, m8", "vadd.vv v8, v8, v8", "vslidedown.vi v8, v8, 1");
    }

    private static void lowerEew() {
        String sentence = "But: a lower EEW, and it begins with that group's first register";
        done(sentence, "e8, m1", "vnsrl.wi v16, v16, 1", "vnclip.wv v16, v16, v24", "vnsrl.wv v16, v16, v16");
        refused(sentence, "e8, m1", "vnsrl.wi v17, v16, 1", "vnclip.wv v17, v16, v24");
        done(sentence, "e8, m2", "vnsrl.wi v16, v16, 1", "vnsrl.wi v20, v16, 1", "vnsrl.wi v14, v16, 1");
        refused(sentence, "e8, m2", "vnsrl.wi v18, v16, 1");
        done(sentence, "e8, m4", "vnsra.wi v16, v16, 1");
        refused(sentence, "e8, m4", "vnsra.wi v20, v16, 1");
        done(sentence, "e8, mf2", "vnsrl.wi v16, v16, 1");
        sentence = "(a mask's EEW is 1)";
        done(sentence, "e8, m1", "vmseq.vv v8, v8, v8", "vmadc.vv v8, v8, v8", "vmseq.vv v8, v8, v9", "vmseq.vv v8, v9, v8");
        done(sentence, "e8, mf4", "vmseq.vv v8, v8, v8");
        done(sentence, "e8, m4", "vmseq.vi v8, v8, 1", "vmseq.vv v8, v12, v8", "vmseq.vv v8, v8, v12", "vmseq.vv v8, v8, v8",
            "vmseq.vi v7, v8, 1", "vmseq.vi v12, v8, 1", "vmadc.vim v8, v8, 1, v0", "vmsbc.vv v8, v12, v8");
        refused(sentence, "e8, m4", "vmseq.vi v9, v8, 1", "vmseq.vi v11, v8, 1", "vmseq.vv v9, v12, v8", "vmseq.vv v13, v12, v8",
            "vmsgt.vx v10, v8, x1", "vmadc.vim v9, v8, 1, v0", "vmadc.vi v11, v8, 1", "vmsbc.vv v9, v12, v8");
        done(sentence, "e8, m8", "vmseq.vi v0, v0, 1", "vmseq.vi v0, v0, 1, v0.t");
        refused(sentence, "e8, m8", "vmseq.vi v7, v0, 1", "vmseq.vi v1, v0, 1, v0.t");
    }

    private static void higherEew() {
        String sentence = "But: a higher EEW, and the source ends with the destination's last register";
        done(sentence, "e8, m1", "vwadd.vv v8, v9, v9", "vwadd.vv v8, v9, v16", "vwadd.vv v8, v16, v9", "vwadd.vx v8, v9, x1",
            "vwadd.wv v8, v8, v9", "vwadd.wv v8, v16, v9", "vwmul.vv v8, v9, v7", "vwmacc.vv v8, v9, v10");
        refused(sentence, "e8, m1", "vwadd.vv v8, v8, v16", "vwadd.vv v8, v16, v8", "vwadd.vv v8, v8, v9", "vwadd.vv v8, v9, v8",
            "vwadd.vx v8, v8, x1", "vwadd.wv v8, v8, v8", "vwadd.wv v8, v16, v8", "vwmul.vv v8, v8, v7",
            "vwmacc.vv v8, v8, v10", "vwmacc.vv v8, v10, v8");
        done(sentence, "e8, m2", "vwadd.vx v8, v10, x1", "vwadd.vx v8, v12, x1", "vwadd.vx v8, v6, x1");
        refused(sentence, "e8, m2", "vwadd.vx v8, v8, x1");
        done(sentence, "e8, m4", "vwadd.vx v8, v12, x1");
        refused(sentence, "e8, m4", "vwadd.vx v8, v8, x1");
        done(sentence, "e16, m2", "vzext.vf2 v8, v9");
        refused(sentence, "e16, m2", "vzext.vf2 v8, v8");
        done(sentence, "e32, m4", "vzext.vf4 v8, v11", "vsext.vf2 v8, v10");
        refused(sentence, "e32, m4", "vzext.vf4 v8, v8", "vzext.vf4 v8, v9", "vzext.vf4 v8, v10", "vsext.vf2 v8, v8");
        done(sentence, "e32, m8", "vzext.vf4 v8, v14", "vsext.vf2 v8, v12");
        refused(sentence, "e32, m8", "vzext.vf4 v8, v8", "vzext.vf4 v8, v10", "vzext.vf4 v8, v12", "vsext.vf2 v8, v8");
        sentence = "But: a higher EEW, the source's EMUL is 1 or more";
        refused(sentence, "e8, mf2", "vwadd.vx v8, v8, x1", "vwadd.vv v8, v16, v8", "vwadd.wv v8, v16, v8");
        refused(sentence, "e8, mf4", "vwadd.vx v8, v8, x1");
        refused(sentence, "e32, m1", "vzext.vf2 v8, v8", "vzext.vf4 v8, v8");
        refused(sentence, "e32, m2", "vzext.vf4 v8, v9", "vzext.vf4 v8, v8");
        done(sentence, "e32, m2", "vzext.vf2 v8, v9", "vzext.vf4 v8, v10", "vzext.vf4 v8, v7");
        done(sentence, "e8, mf2", "vwadd.vx v8, v9, x1");
    }

    private static void overlapOfLoads() {
        String sentence = "A load's destination and its indices: of a lower EEW";
        done(sentence, "e8, m1", "vluxei16.v v16, (x0), v16", "vloxei32.v v16, (x0), v16", "vluxei16.v v18, (x0), v16");
        refused(sentence, "e8, m1", "vluxei16.v v17, (x0), v16", "vloxei32.v v17, (x0), v16", "vloxei32.v v19, (x0), v16");
        sentence = "A load's destination and its indices: of a higher EEW";
        done(sentence, "e32, m2", "vluxei16.v v16, (x0), v17", "vluxei16.v v16, (x0), v18");
        refused(sentence, "e32, m2", "vluxei16.v v16, (x0), v16", "vloxei8.v v16, (x0), v16", "vloxei8.v v16, (x0), v17");
        done(sentence, "e32, m4", "vloxei8.v v16, (x0), v19", "vloxei16.v v16, (x0), v18");
        refused(sentence, "e32, m4", "vloxei8.v v16, (x0), v18", "vloxei16.v v16, (x0), v16");
        refused(sentence, "e32, m1", "vluxei16.v v16, (x0), v16", "vluxei8.v v16, (x0), v16");
        done("Stores have no destination", "e32, m2", "vsuxei16.v v16, (x0), v16", "vsoxei8.v v16, (x0), v16");
        done("Stores have no destination", "e8, m1", "vsuxei32.v v17, (x0), v16");
    }

    private static void reductions() {
        String sentence = "Reductions have none of this for vd and vs1, which are single registers";
        done(sentence, "e8, m8", "vredsum.vs v9, v16, v11", "vredsum.vs v17, v16, v18", "vredsum.vs v16, v16, v16",
            "vredmax.vs v23, v16, v23", "vwredsum.vs v9, v16, v11", "vwredsum.vs v17, v16, v18", "vwredsumu.vs v16, v16, v16",
            "vredsum.vs v1, v0, v2, v0.t");
        done(sentence, "e8, mf2", "vwredsum.vs v9, v9, v9");
        sentence = "Reductions: of vs2 the number alone is asked";
        refused(sentence, "e8, m8", "vredsum.vs v8, v12, v16", "vwredsum.vs v8, v12, v16", "vredand.vs v8, v31, v16");
        refused(sentence, "e8, m2", "vredsum.vs v8, v17, v16");
        done(sentence, "e8, m2", "vredsum.vs v8, v18, v16");
    }

    private static void apart() {
        String sentence = "vd of vslideup, vslide1up, vrgather.., vcompress has no register of a source";
        refused(sentence, "e8, m1", "vslideup.vi v8, v8, 1", "vslideup.vx v8, v8, x1", "vslide1up.vx v8, v8, x1",
            "vrgather.vv v8, v8, v16", "vrgather.vv v8, v16, v8", "vrgather.vx v8, v8, x1", "vrgather.vi v8, v8, 1",
            "vrgatherei16.vv v16, v16, v24", "vrgatherei16.vv v16, v8, v16", "vrgatherei16.vv v17, v8, v16",
            "vcompress.vm v8, v8, v16", "vcompress.vm v8, v16, v8");
        refused(sentence, "e32, m2", "vrgatherei16.vv v8, v16, v9", "vrgatherei16.vv v8, v16, v8", "vcompress.vm v8, v16, v9",
            "vcompress.vm v8, v16, v8", "vslideup.vi v8, v8, 1");
        done(sentence, "e32, m2", "vrgatherei16.vv v8, v16, v10", "vcompress.vm v8, v16, v10", "vcompress.vm v8, v16, v7",
            "vslideup.vi v8, v10, 1", "vslide1up.vx v8, v6, x1", "vrgather.vv v8, v16, v16");
        done("vslidedown, vslide1down may", "e32, m2", "vslidedown.vi v8, v8, 1", "vslide1down.vx v8, v8, x1");
        sentence = "vmsbf vmsif vmsof, viota: vd not of the group of vs2";
        refused(sentence, "e8, m1", "vmsbf.m v8, v8", "vmsif.m v8, v8", "vmsof.m v8, v8", "viota.m v8, v8");
        refused(sentence, "e8, m4", "vmsbf.m v8, v8", "viota.m v8, v8", "viota.m v8, v9", "viota.m v8, v11");
        done(sentence, "e8, m4", "vmsbf.m v8, v9", "viota.m v8, v12", "viota.m v8, v7");
    }

    private static void startNotZero() {
        String[] texts = {
            "vredsum.vs v8, v16, v24", "vredand.vs v8, v16, v24", "vredor.vs v8, v16, v24", "vredxor.vs v8, v16, v24",
            "vredminu.vs v8, v16, v24", "vredmin.vs v8, v16, v24", "vredmaxu.vs v8, v16, v24", "vredmax.vs v8, v16, v24",
            "vwredsumu.vs v8, v16, v24", "vwredsum.vs v8, v16, v24", "vcpop.m x3, v16", "vfirst.m x3, v16", "vmsbf.m v8, v16",
            "vmsif.m v8, v16", "vmsof.m v8, v16", "viota.m v8, v16", "vcompress.vm v8, v16, v24",
        };
        for (String text : texts) {
            for (int start : new int[] {1, 2, 3, 127}) {
                Bench b = busy("VSTART not 0: ILLEGAL: " + text, "e8, m1");
                b.set(Bench.VSTART, start);
                b.x(3, 77);
                b.refuses(text);
                b.isX(3, 77);
            }
            Bench none = new Bench("VSTART not 0: ILLEGAL, with VL 0: " + text, "e8, m1", 0);
            none.set(Bench.VSTART, 1);
            none.refuses(text);
            none.set(Bench.VSTART, 0);
            none.does(text);
        }
        for (String text : new String[] {"vid.v v8", "vmv.x.s x3, v16", "vmv.s.x v8, x3", "vmand.mm v8, v16, v24", "vmv1r.v v8, v16"}) {
            Bench b = busy("VSTART not 0 may be: " + text, "e8, m1");
            b.set(Bench.VSTART, 2);
            b.does(text);
        }
    }

    private static void asksBeforeLength() {
        for (String text : new String[] {"vadd.vv v9, v16, v24", "vle8.v v9, (x0)", "vse8.v v9, (x0)", "vwadd.vx v8, v8, x1",
            "vadd.vi v0, v16, 1, v0.t", "vmseq.vi v9, v8, 1", "vredsum.vs v8, v17, v24", "vmv2r.v v9, v16"}) {
            Bench none = new Bench("ILLEGAL with VL 0, too: " + text, "e8, m2", 0);
            none.refuses(text);
            Bench behind = new Bench("ILLEGAL with VSTART beyond VL, too: " + text, "e8, m2", 3);
            behind.set(Bench.VSTART, 100);
            behind.refuses(text);
        }
    }
}
