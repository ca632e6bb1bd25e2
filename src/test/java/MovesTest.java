import java.util.Random;

/** Promise 2: slides, gathers, vcompress, moves of whole registers. */
public final class MovesTest {
    private static final int VD = 8;
    private static final int VS2 = 16;
    private static final int VS1 = 24;
    private static final Random SOURCE = new Random(4711);

    private MovesTest() {
    }

    public static void main(String[] args) {
        for (int round = 0; round < 500; round++) {
            slides();
            slidesByOne();
            gathers();
            gathers16();
            compresses();
            wholes();
        }
        Check.end();
    }

    private static void slides() {
        Setup s = Setup.random(SOURCE, 8 << SOURCE.nextInt(3));
        boolean isUp = SOURCE.nextBoolean();
        boolean isNumber = SOURCE.nextBoolean();
        int s1 = isNumber ? SOURCE.nextInt(32) : 1 + SOURCE.nextInt(31);
        if (!isNumber && SOURCE.nextInt(3) != 0) {
            s.x[s1] = SOURCE.nextInt(140);
        }
        long by = isNumber ? s1 : s.x[s1] & 0xFFFFFFFFL;
        int vd = !isUp && SOURCE.nextInt(3) == 0 ? VS2 : VD;
        int vm = SOURCE.nextInt(2);
        Rows due = s.rows.copy();
        for (int i = s.vstart; i < s.vl; i++) {
            if (isUp && i < by) {
                continue;
            }
            long from = isUp ? i - by : i + by;
            put(s, due, vd, i, vm, from < s.vlmax() ? s.rows.get(VS2, s.sew, (int) from) : 0);
        }
        end("slide " + (isUp ? "up" : "down") + " by " + by, s, Asm.op(isUp ? 14 : 15, vm, VS2, s1, isNumber ? Asm.IVI : Asm.IVX, vd), due, vd);
    }

    private static void slidesByOne() {
        Setup s = Setup.random(SOURCE, 8 << SOURCE.nextInt(3));
        boolean isUp = SOURCE.nextBoolean();
        int rs1 = SOURCE.nextInt(32);
        int vd = !isUp && SOURCE.nextInt(3) == 0 ? VS2 : VD;
        int vm = SOURCE.nextInt(2);
        Rows due = s.rows.copy();
        for (int i = s.vstart; i < s.vl; i++) {
            boolean isEnd = isUp ? i == 0 : i == s.vl - 1;
            put(s, due, vd, i, vm, isEnd ? s.x[rs1] : s.rows.get(VS2, s.sew, isUp ? i - 1 : i + 1));
        }
        end("slide by one", s, Asm.op(isUp ? 14 : 15, vm, VS2, rs1, Asm.MVX, vd), due, vd);
    }

    private static void gathers() {
        Setup s = Setup.random(SOURCE, 8 << SOURCE.nextInt(3));
        int form = new int[] {Asm.IVV, Asm.IVX, Asm.IVI}[SOURCE.nextInt(3)];
        int s1 = form == Asm.IVV ? VS1 : SOURCE.nextInt(32);
        int vm = SOURCE.nextInt(2);
        if (s1 != 0 && SOURCE.nextBoolean()) {
            s.x[s1] = SOURCE.nextInt(130);
        }
        for (int i = 0; i < s.vlmax(); i++) {
            if (SOURCE.nextInt(3) != 0) {
                s.rows.put(VS1, s.sew, i, SOURCE.nextInt(s.vlmax() + 1));
            }
        }
        Rows due = s.rows.copy();
        for (int i = s.vstart; i < s.vl; i++) {
            long index = form == Asm.IVV ? s.rows.get(VS1, s.sew, i) : form == Asm.IVX ? s.x[s1] & 0xFFFFFFFFL : s1;
            put(s, due, VD, i, vm, index < s.vlmax() ? s.rows.get(VS2, s.sew, (int) index) : 0);
        }
        end("vrgather " + form, s, Asm.op(12, vm, VS2, s1, form, VD), due, VD);
    }

    private static void gathers16() {
        Setup s = Setup.random(SOURCE, 8 << SOURCE.nextInt(3));
        int vm = SOURCE.nextInt(2);
        int word = Asm.op(14, vm, VS2, VS1, Asm.IVV, VD);
        if (s.eighthsOf(16) > 64) {
            Check.due("vrgatherei16 of too many", s.make().step(word), 1);
            return;
        }
        for (int i = 0; i < s.vlmax(); i++) {
            if (SOURCE.nextInt(4) != 0) {
                s.rows.put(VS1, 16, i, SOURCE.nextInt(s.vlmax() + 1));
            }
        }
        Rows due = s.rows.copy();
        for (int i = s.vstart; i < s.vl; i++) {
            long index = s.rows.get(VS1, 16, i);
            put(s, due, VD, i, vm, index < s.vlmax() ? s.rows.get(VS2, s.sew, (int) index) : 0);
        }
        end("vrgatherei16", s, word, due, VD);
    }

    private static void compresses() {
        Setup s = Setup.random(SOURCE, 8 << SOURCE.nextInt(3));
        s.vstart = 0;
        if (SOURCE.nextInt(10) == 0) {
            for (int i = 0; i < 128; i++) {
                s.rows.put(VS1, 1, i, 0);
            }
        }
        Rows due = s.rows.copy();
        int reached = 0;
        for (int i = 0; i < s.vl; i++) {
            if (s.rows.get(VS1, 1, i) == 1) {
                due.put(VD, s.sew, reached++, s.rows.get(VS2, s.sew, i));
            }
        }
        if (s.vl > 0) {
            s.leaveTail(due, VD, s.sew, reached, s.ta);
        }
        same("vcompress", s, Asm.op(23, 1, VS2, VS1, Asm.MVV, VD), due);
    }

    private static void wholes() {
        Setup s = Setup.random(SOURCE, 8 << SOURCE.nextInt(3));
        s.vstart = SOURCE.nextBoolean() ? 0 : SOURCE.nextInt(128);
        int count = 1 << SOURCE.nextInt(4);
        int vd = SOURCE.nextInt(32) / count * count;
        int vs2 = SOURCE.nextInt(32) / count * count;
        Rows due = s.rows.copy();
        for (int at = s.vstart * s.sew / 8; at < 16 * count; at++) {
            due.bytes[16 * vd + at] = s.rows.bytes[16 * vs2 + at];
        }
        same("vmv" + count + "r", s, Asm.op(39, 1, vs2, count - 1, Asm.IVI, vd), due);
    }

    private static void put(Setup s, Rows due, int vd, int i, int vm, long value) {
        if (vm == 1 || s.rows.get(0, 1, i) == 1) {
            due.put(vd, s.sew, i, value);
        } else if (s.ma) {
            s.leaveOpen(due, vd, s.sew, i);
        }
    }

    private static void end(String what, Setup s, int word, Rows due, int vd) {
        if (s.vstart < s.vl) {
            s.leaveTail(due, vd, s.sew, s.vl, s.ta);
        }
        same(what, s, word, due);
    }

    private static void same(String what, Setup s, int word, Rows due) {
        StripMachine m = s.make();
        Check.due(what, m.step(word), 0);
        s.sameRows(what, m, due);
        s.sameRest(what, m, 0);
    }
}
