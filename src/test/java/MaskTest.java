import java.util.Random;

/** Promise 2: masks, vcpop, vfirst, viota, vid, the moves of single elements, reductions. */
public final class MaskTest {
    private static final int VD = 8;
    private static final int VS2 = 16;
    private static final int VS1 = 24;
    private static final Random SOURCE = new Random(77);

    private MaskTest() {
    }

    public static void main(String[] args) {
        for (int round = 0; round < 400; round++) {
            logic();
            counts();
            firstBits();
            numbers();
            scalars();
            reductions();
        }
        told();
        Check.end();
    }

    private static Setup setup(boolean withStart) {
        Setup s = Setup.random(SOURCE, 8 << SOURCE.nextInt(3));
        if (!withStart) {
            s.vstart = 0;
        }
        if (SOURCE.nextInt(3) == 0) {
            // Few bits, or none, are where the first one matters.
            for (int i = 0; i < 128; i++) {
                s.rows.put(VS2, 1, i, SOURCE.nextInt(40) == 0 ? 1 : 0);
            }
        }
        return s;
    }

    private static boolean active(Setup s, int vm, int i) {
        return vm == 1 || s.rows.get(0, 1, i) == 1;
    }

    private static void logic() {
        Setup s = setup(true);
        int funct6 = 24 + SOURCE.nextInt(8);
        int vd = new int[] {VD, 0, VS2, VS1}[SOURCE.nextInt(4)];
        Rows due = s.rows.copy();
        for (int i = s.vstart; i < s.vl; i++) {
            boolean a = s.rows.get(VS2, 1, i) == 1;
            boolean b = s.rows.get(VS1, 1, i) == 1;
            boolean[] results = {a && !b, a && b, a || b, a != b, a || !b, !(a && b), !(a || b), a == b};
            due.put(vd, 1, i, results[funct6 - 24] ? 1 : 0);
        }
        if (s.vstart < s.vl) {
            s.leaveTail(due, vd, 1, s.vl, true);
        }
        end("mask logic " + funct6, s, Asm.op(funct6, 1, VS2, VS1, Asm.MVV, vd), due);
    }

    private static void counts() {
        Setup s = setup(false);
        int vm = SOURCE.nextInt(2);
        int count = 0;
        int first = -1;
        for (int i = s.vl - 1; i >= 0; i--) {
            if (active(s, vm, i) && s.rows.get(VS2, 1, i) == 1) {
                count++;
                first = i;
            }
        }
        StripMachine m = end("vcpop", s, Asm.op(16, vm, VS2, 16, Asm.MVV, 3), s.rows);
        Check.due("vcpop", m.x(3), count);
        m = end("vfirst", s, Asm.op(16, vm, VS2, 17, Asm.MVV, 3), s.rows);
        Check.due("vfirst", m.x(3), first);
        m.step(Asm.op(16, vm, VS2, 17, Asm.MVV, 0));
        Check.due("x0", m.x(0), 0);
    }

    private static void firstBits() {
        Setup s = setup(false);
        int vm = SOURCE.nextInt(2);
        int selector = 1 + SOURCE.nextInt(3);
        int first = 1000;
        for (int i = s.vl - 1; i >= 0; i--) {
            if (active(s, vm, i) && s.rows.get(VS2, 1, i) == 1) {
                first = i;
            }
        }
        Rows due = s.rows.copy();
        for (int i = 0; i < s.vl; i++) {
            if (active(s, vm, i)) {
                boolean bit = selector == 1 ? i < first : selector == 2 ? i == first : i <= first;
                due.put(VD, 1, i, bit ? 1 : 0);
            } else if (s.ma) {
                s.leaveOpen(due, VD, 1, i);
            }
        }
        if (s.vl > 0) {
            s.leaveTail(due, VD, 1, s.vl, true);
        }
        end("first bit " + selector, s, Asm.op(20, vm, VS2, selector, Asm.MVV, VD), due);
    }

    private static void numbers() {
        boolean isIota = SOURCE.nextBoolean();
        Setup s = setup(!isIota);
        int vm = SOURCE.nextInt(2);
        Rows due = s.rows.copy();
        int before = 0;
        for (int i = s.vstart; i < s.vl; i++) {
            if (active(s, vm, i)) {
                due.put(VD, s.sew, i, isIota ? before : i);
                before += s.rows.get(VS2, 1, i) == 1 ? 1 : 0;
            } else if (s.ma) {
                s.leaveOpen(due, VD, s.sew, i);
            }
        }
        if (s.vstart < s.vl) {
            s.leaveTail(due, VD, s.sew, s.vl, s.ta);
        }
        end(isIota ? "viota" : "vid", s, Asm.op(20, vm, isIota ? VS2 : 0, isIota ? 16 : 17, Asm.MVV, VD), due);
    }

    private static void scalars() {
        Setup s = setup(true);
        int number = SOURCE.nextInt(32);
        StripMachine m = end("vmv.x.s", s, Asm.op(16, 1, number, 0, Asm.MVV, 3), s.rows);
        Check.due("vmv.x.s", m.x(3), s.rows.signed(number, s.sew, 0));
        Rows due = s.rows.copy();
        if (s.vstart < s.vl) {
            due.put(number, s.sew, 0, s.x[9]);
            for (int i = 1; i < 128 / s.sew; i++) {
                if (s.ta) {
                    s.leaveOpen(due, number, s.sew, i);
                }
            }
        }
        end("vmv.s.x", s, Asm.op(16, 1, 0, 9, Asm.MVX, number), due);
    }

    private static void reductions() {
        Setup s = setup(false);
        int which = SOURCE.nextInt(10);
        boolean isWide = which >= 8;
        int vm = SOURCE.nextInt(2);
        int vd = SOURCE.nextInt(32);
        int vs1 = SOURCE.nextInt(32);
        int word = isWide ? Asm.op(40 + which, vm, VS2, vs1, Asm.IVV, vd) : Asm.op(which, vm, VS2, vs1, Asm.MVV, vd);
        int eew = isWide ? 2 * s.sew : s.sew;
        if (eew > 32) {
            Check.due("vwredsum of 32", s.make().step(word), 1);
            return;
        }
        boolean isSigned = which == 5 || which == 7 || which == 9;
        Rows due = s.rows.copy();
        long total = isSigned ? s.rows.signed(vs1, eew, 0) : s.rows.get(vs1, eew, 0);
        for (int i = 0; i < s.vl; i++) {
            if (active(s, vm, i)) {
                total = folded(which, total, isSigned ? s.rows.signed(VS2, s.sew, i) : s.rows.get(VS2, s.sew, i));
            }
        }
        if (s.vl > 0) {
            due.put(vd, eew, 0, total);
            for (int i = 1; i < 128 / eew; i++) {
                if (s.ta) {
                    s.leaveOpen(due, vd, eew, i);
                }
            }
        }
        end("reduction " + which + " vl " + s.vl, s, word, due);
    }

    private static long folded(int which, long total, long next) {
        switch (which) {
            case 1: return total & next;
            case 2: return total | next;
            case 3: return total ^ next;
            case 4:
            case 5: return next < total ? next : total;
            case 6:
            case 7: return next > total ? next : total;
            default: return total + next;
        }
    }

    /** The tails and ends that the document names. */
    private static void told() {
        Setup s = Setup.of(8, 0, 5);
        s.choices = 0xAAAAAAAAAAAAAAAAL;
        StripMachine m = s.make();
        m.step(Asm.op(27, 1, VD, VD, Asm.MVV, VD));
        Check.due("a mask's tail is open whatever TA is", m.v(4 * VD), 0xAAAAAAA0);
        Check.due("to bit 127", m.v(4 * VD + 3), 0xAAAAAAAA);
        m.setV(0, 0x12);
        m.setX(3, 99);
        m.step(Asm.op(16, 0, 0, 16, Asm.MVV, 3));
        Check.due("vcpop under its own mask", m.x(3), 2);
        m.step(Asm.vsetivli(0, 0, 0));
        m.step(Asm.op(16, 1, 0, 16, Asm.MVV, 3));
        Check.due("vcpop with VL 0", m.x(3), 0);
        m.step(Asm.op(16, 1, 0, 17, Asm.MVV, 3));
        Check.due("vfirst with VL 0", m.x(3), -1);
        m.setState(2, 7);
        m.step(Asm.op(16, 1, 0, 0, Asm.MVV, 3));
        Check.due("vmv.x.s with VL 0", m.x(3), 0x12);
        Check.due("its VSTART", m.state(2), 0);
        m.step(Asm.op(16, 1, 0, 3, Asm.MVX, 0));
        Check.due("vmv.s.x with VL 0", m.v(0), 0x12);
        Setup late = Setup.of(8, 0, 5);
        late.vstart = 4;
        late.x[1] = 0x1FF;
        m = late.make();
        m.step(Asm.op(16, 1, 0, 1, Asm.MVX, VD));
        Check.due("vmv.s.x ahead of VSTART", m.v(4 * VD), 0xFF);
    }

    private static StripMachine end(String what, Setup s, int word, Rows due) {
        StripMachine m = s.make();
        Check.due(what, m.step(word), 0);
        s.sameRows(what, m, due);
        s.sameRest(what, m, 0);
        return m;
    }
}
