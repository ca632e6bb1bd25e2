import java.util.Random;

/** Promise 2: an instruction asks for the state alone, and for nothing else that the one ahead of it has left. */
public final class SequenceTest {
    private static final Random SOURCE = new Random(31);
    private static final int WORDS = 40;
    // One of every kind; any of them may stand ahead of any other.
    private static final String[] KINDS = {
        "vadd.vv v8, v16, v24", "vadd.vx v8, v16, x3", "vadd.vi v8, v16, 5, v0.t", "vmseq.vv v9, v16, v24",
        "vmadc.vvm v9, v16, v24, v0", "vmadc.vi v9, v16, 5", "vadc.vvm v8, v16, v24, v0", "vmerge.vim v8, v16, 5, v0",
        "vmv.v.i v8, 5", "vnsrl.wv v8, v16, v24", "vnclip.wi v8, v16, 2, v0.t", "vwadd.vv v8, v16, v24",
        "vwmacc.vx v8, x3, v16", "vwadd.wv v8, v16, v24", "vzext.vf2 v8, v16", "vredsum.vs v9, v16, v24",
        "vwredsum.vs v9, v16, v24, v0.t", "vmand.mm v9, v17, v25", "vcpop.m x4, v16", "vfirst.m x4, v16, v0.t",
        "vmsbf.m v9, v16", "viota.m v8, v17", "vid.v v8", "vmv.x.s x4, v17", "vmv.s.x v9, x3", "vslideup.vi v8, v16, 2",
        "vslidedown.vx v8, v16, x5", "vslide1up.vx v8, v16, x3", "vslide1down.vx v8, v16, x3, v0.t",
        "vrgather.vv v8, v16, v24", "vrgatherei16.vv v8, v16, v24", "vcompress.vm v8, v16, v25", "vmv1r.v v9, v16",
        "vmv1r.v v25, v17", "vmv2r.v v18, v8", "vle8.v v8, (x1)", "vle32.v v8, (x1), v0.t", "vse16.v v8, (x1)",
        "vse8.v v8, (x1), v0.t", "vlse16.v v8, (x1), x5", "vsse8.v v8, (x1), x5", "vluxei8.v v8, (x1), v16",
        "vloxei16.v v8, (x1), v16, v0.t", "vsuxei8.v v8, (x1), v16", "vsoxei16.v v8, (x1), v16", "vlm.v v9, (x1)",
        "vsm.v v9, (x1)", "vle8ff.v v8, (x1)", "vle16ff.v v8, (x1), v0.t", "vl1re8.v v9, (x1)", "vl2re32.v v8, (x1)",
        "vs1r.v v9, (x1)", "vs4r.v v8, (x1)", "vsetvli x4, x0, e8, m1, ta, ma", "vsetivli x4, 5, e16, m2, tu, ma",
        "vsetvli x4, x0, e32, m4, ta, mu", "vsetvli x0, x0, e8, m1, tu, mu", "vsetvli x4, x0, e64, m1", "vle64.v v8, (x1)",
    };

    private SequenceTest() {
    }

    public static void main(String[] args) {
        for (String before : KINDS) {
            for (String after : KINDS) {
                pair(before, after);
            }
        }
        Check.end();
    }

    private static void pair(String before, String after) {
        Setup s = Setup.random(SOURCE, 8 << SOURCE.nextInt(3));
        if (SOURCE.nextInt(4) != 0) {
            s.lmulCode = SOURCE.nextInt(2);
            s.vl = 1 + SOURCE.nextInt(s.vlmax());
        }
        s.vstart = SOURCE.nextInt(3) == 0 ? SOURCE.nextInt(3) : 0;
        s.x[1] = 64 + SOURCE.nextInt(48);
        s.x[5] = SOURCE.nextInt(4) - 1;
        for (int i = 0; i < 32; i++) {
            s.rows.put(16, 16, i, SOURCE.nextInt(16));
        }
        int[] memory = new int[WORDS];
        for (int k = 0; k < WORDS; k++) {
            memory[k] = SOURCE.nextInt();
        }
        int shut = 1 + SOURCE.nextInt(3);
        StripMachine both = made(s, memory, shut);
        both.step(Words.of(before));
        StripMachine between = made(s, memory, shut);
        between.step(Words.of(before));
        StripMachine alone = again(between, s.choices, shut);
        String what = before + " | " + after + " e" + s.sew + " lmul " + s.lmulCode + " vl " + s.vl;
        Check.due(what, both.step(Words.of(after)), alone.step(Words.of(after)));
        same(what, both, alone);
    }

    private static StripMachine made(Setup s, int[] memory, int shut) {
        StripMachine m = s.make();
        for (int k = 0; k < WORDS; k++) {
            m.setWord(k, memory[k]);
        }
        m.shut(shut, true);
        return m;
    }

    /** A new machine in the state of another one. */
    private static StripMachine again(StripMachine m, long choices, int shut) {
        StripMachine other = new StripMachine();
        other.setX(1, m.state(0));
        other.setX(2, m.state(1));
        other.step(Asm.vsetvl(0, 1, 2));
        for (int what = 2; what < 5; what++) {
            other.setState(what, m.state(what));
        }
        for (int k = 1; k < 32; k++) {
            other.setX(k, m.x(k));
        }
        for (int k = 0; k < 128; k++) {
            other.setV(k, m.v(k));
        }
        for (int k = 0; k < WORDS; k++) {
            other.setWord(k, m.word(k));
        }
        other.choose(choices);
        other.shut(shut, true);
        return other;
    }

    private static void same(String what, StripMachine m, StripMachine other) {
        for (int state = 0; state < 6; state++) {
            Check.due(what + " state(" + state + ")", m.state(state), other.state(state));
        }
        Check.due(what + " sum()", m.sum(), other.sum());
        for (int k = 1; k < 32; k++) {
            Check.due(what + " x(" + k + ")", m.x(k), other.x(k));
        }
        for (int k = 0; k < WORDS; k++) {
            Check.due(what + " word(" + k + ")", m.word(k), other.word(k));
        }
    }
}
