import java.util.Random;

/** What a machine is before the instruction under test. */
final class Setup {
    static final int[] LMUL_CODES = {6, 7, 0, 1, 2, 3};

    int sew = 8;
    int lmulCode = 0;
    boolean ta;
    boolean ma;
    int vl;
    int vstart;
    int vxrm;
    int vxsat;
    long choices;
    int[] x = new int[32];
    Rows rows = new Rows();

    static Setup of(int sew, int lmulCode, int vl) {
        Setup s = new Setup();
        s.sew = sew;
        s.lmulCode = lmulCode;
        s.vl = vl;
        return s;
    }

    /** Any legal VTYPE of a SEW, VL of all sizes, VSTART 0 or below VL. */
    static Setup random(Random source, int sew) {
        Setup s = new Setup();
        s.sew = sew;
        do {
            s.lmulCode = LMUL_CODES[source.nextInt(6)];
        } while (sew > 4 * s.eighths());
        s.ta = source.nextBoolean();
        s.ma = source.nextBoolean();
        int pick = source.nextInt(8);
        s.vl = pick == 0 ? 0 : pick < 3 ? s.vlmax() : source.nextInt(s.vlmax() + 1);
        s.vstart = s.vl == 0 || source.nextInt(4) != 0 ? 0 : source.nextInt(s.vl);
        if (source.nextInt(30) == 0) {
            s.vstart = source.nextInt(128);
        }
        s.vxrm = source.nextInt(4);
        s.vxsat = source.nextInt(8) == 0 ? 1 : 0;
        s.choices = source.nextInt(4) == 0 ? -1L : source.nextLong();
        for (int k = 1; k < 32; k++) {
            s.x[k] = randomNumber(source);
        }
        s.rows = Rows.random(source);
        return s;
    }

    static int randomNumber(Random source) {
        switch (source.nextInt(5)) {
            case 0: return source.nextInt(40) - 20;
            case 1: return 1 << source.nextInt(32);
            case 2: return (1 << source.nextInt(32)) - 1;
            default: return source.nextInt();
        }
    }

    /** 0 if there is no such LMUL. */
    static int eighthsOfCode(int code) {
        return code < 4 ? 8 << code : code == 7 ? 4 : code == 6 ? 2 : 0;
    }

    int eighths() {
        return eighthsOfCode(lmulCode);
    }

    int eighthsOf(int eew) {
        return eew == 1 ? 8 : eighths() * eew / sew;
    }

    int vlmax() {
        return eighths() * 16 / sew;
    }

    int registersOf(int eew) {
        return Math.max(1, eighthsOf(eew) / 8);
    }

    int vtype() {
        return lmulCode | (sew == 8 ? 0 : sew == 16 ? 8 : 16) | (ta ? 64 : 0) | (ma ? 128 : 0);
    }

    boolean chosen(int i) {
        return ((choices >> (i % 64)) & 1) == 1;
    }

    /** 9 + 31 + 128 calls. */
    StripMachine make() {
        StripMachine m = new StripMachine();
        m.setX(5, vl);
        m.setX(6, vtype());
        Check.due("vsetvl", m.step(Asm.vsetvl(7, 5, 6)), 0);
        Check.due("VL of the setup", m.state(0), vl);
        m.choose(choices);
        m.setState(2, vstart);
        m.setState(3, vxrm);
        m.setState(4, vxsat);
        for (int k = 1; k < 32; k++) {
            m.setX(k, x[k]);
        }
        for (int k = 0; k < 128; k++) {
            m.setV(k, rows.word(k));
        }
        return m;
    }

    void leaveOpen(Rows due, int register, int eew, int i) {
        if (chosen(i)) {
            due.put(register, eew, i, -1);
        }
    }

    void leaveTail(Rows due, int register, int eew, int from, boolean open) {
        if (open) {
            int end = registersOf(eew) * 128 / eew;
            for (int i = from; i < end; i++) {
                leaveOpen(due, register, eew, i);
            }
        }
    }

    void sameRows(String what, StripMachine m, Rows due) {
        for (int k = 0; k < 128; k++) {
            Check.due(what + " v(" + k + ")", m.v(k), due.word(k));
        }
    }

    /** What no instruction under test changes, if it is done and is no vset. */
    void sameRest(String what, StripMachine m, int answer) {
        Check.due(what + " VL", m.state(0), vl);
        Check.due(what + " VTYPE", m.state(1), vtype());
        Check.due(what + " VSTART", m.state(2), answer == 0 ? 0 : vstart);
        Check.due(what + " VXRM", m.state(3), vxrm);
        Check.due(what + " done", m.state(6), answer == 0 ? 2 : 1);
        Check.due(what + " illegal", m.state(7), answer == 1 ? 1 : 0);
        Check.due(what + " traps", m.state(8), answer == 2 ? 1 : 0);
    }
}
