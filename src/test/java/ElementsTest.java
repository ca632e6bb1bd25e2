import java.util.Random;

/** Promise 2: every instruction that goes element by element, against numbers without bounds, masks, tails, VSTART. */
public final class ElementsTest {
    // name, bits 31 .. 26, I or M, forms, widths (see widthsOf)
    private static final String[] TABLE = {
        "vadd 0 I VXI same", "vsub 2 I VX same", "vrsub 3 I XI same", "vminu 4 I VX same", "vmin 5 I VX same",
        "vmaxu 6 I VX same", "vmax 7 I VX same", "vand 9 I VXI same", "vor 10 I VXI same", "vxor 11 I VXI same",
        "vmseq 24 I VXI mask", "vmsne 25 I VXI mask", "vmsltu 26 I VX mask", "vmslt 27 I VX mask",
        "vmsleu 28 I VXI mask", "vmsle 29 I VXI mask", "vmsgtu 30 I XI mask", "vmsgt 31 I XI mask",
        "vsaddu 32 I VXI same", "vsadd 33 I VXI same", "vssubu 34 I VX same", "vssub 35 I VX same",
        "vsll 37 I VXI same", "vsmul 39 I VX same", "vsrl 40 I VXI same", "vsra 41 I VXI same",
        "vssrl 42 I VXI same", "vssra 43 I VXI same", "vnsrl 44 I VXI narrow", "vnsra 45 I VXI narrow",
        "vnclipu 46 I VXI narrow", "vnclip 47 I VXI narrow",
        "vaaddu 8 M VX same", "vaadd 9 M VX same", "vasubu 10 M VX same", "vasub 11 M VX same",
        "vdivu 32 M VX same", "vdiv 33 M VX same", "vremu 34 M VX same", "vrem 35 M VX same",
        "vmulhu 36 M VX same", "vmul 37 M VX same", "vmulhsu 38 M VX same", "vmulh 39 M VX same",
        "vmadd 41 M VX same", "vnmsub 43 M VX same", "vmacc 45 M VX same", "vnmsac 47 M VX same",
        "vwaddu 48 M VX widen", "vwadd 49 M VX widen", "vwsubu 50 M VX widen", "vwsub 51 M VX widen",
        "vwaddu.w 52 M VX wide", "vwadd.w 53 M VX wide", "vwsubu.w 54 M VX wide", "vwsub.w 55 M VX wide",
        "vwmulu 56 M VX widen", "vwmulsu 58 M VX widen", "vwmul 59 M VX widen", "vwmaccu 60 M VX widen",
        "vwmacc 61 M VX widen", "vwmaccus 62 M X widen", "vwmaccsu 63 M VX widen",
        "vzext 18 M 4 quarter", "vsext 18 M 5 quarter", "vzext 18 M 6 half", "vsext 18 M 7 half",
    };
    private static final int VD = 8;
    private static final int VS2 = 16;
    private static final int VS1 = 24;
    private static final Random SOURCE = new Random(20261116);

    private ElementsTest() {
    }

    public static void main(String[] args) {
        for (String row : TABLE) {
            String[] cells = row.split(" ");
            for (int form = 0; form < cells[3].length(); form++) {
                for (int sew = 8; sew <= 32; sew *= 2) {
                    for (int round = 0; round < 16; round++) {
                        one(cells, cells[3].charAt(form), Setup.random(SOURCE, sew));
                    }
                }
            }
        }
        carries();
        merges();
        leastByMinusOne();
        Check.end();
    }

    /** Widths of vd, vs2, vs1. */
    private static int[] widthsOf(String kind, int sew) {
        switch (kind) {
            case "mask": return new int[] {1, sew, sew};
            case "narrow": return new int[] {sew, 2 * sew, sew};
            case "widen": return new int[] {2 * sew, sew, sew};
            case "wide": return new int[] {2 * sew, 2 * sew, sew};
            case "half": return new int[] {sew, sew / 2, sew};
            case "quarter": return new int[] {sew, sew / 4, sew};
            default: return new int[] {sew, sew, sew};
        }
    }

    private static void one(String[] cells, char form, Setup s) {
        int[] widths = widthsOf(cells[4], s.sew);
        int vm = SOURCE.nextInt(2);
        int s1 = form == 'V' ? VS1 : Character.isDigit(form) ? form - '0' : 1 + SOURCE.nextInt(31);
        int bits = cells[2].equals("M") ? (form == 'X' ? Asm.MVX : Asm.MVV) : form == 'V' ? Asm.IVV : form == 'X' ? Asm.IVX : Asm.IVI;
        int word = Asm.op(Integer.parseInt(cells[1]), vm, VS2, s1, bits, VD);
        String what = cells[0] + "." + form + " e" + s.sew + " lmul " + s.lmulCode + " vl " + s.vl + " vstart " + s.vstart + " vm " + vm;
        StripMachine m = s.make();
        int answer = m.step(word);
        boolean legal = true;
        for (int width : widths) {
            legal &= width <= 32 && (width == 1 || width >= 8) && s.eighthsOf(width) <= 64;
        }
        Check.due(what, answer, legal ? 0 : 1);
        s.sameRest(what, m, answer);
        Numbers numbers = new Numbers();
        numbers.sew = s.sew;
        numbers.vxrm = s.vxrm;
        Rows due = legal ? elements(cells[0], s, widths, form, s1, vm, numbers) : s.rows;
        s.sameRows(what, m, due);
        Check.due(what + " VXSAT", m.state(4), numbers.saturated ? 1 : s.vxsat);
    }

    private static Rows elements(String name, Setup s, int[] widths, char form, int s1, int vm, Numbers numbers) {
        Rows due = s.rows.copy();
        if (s.vstart >= s.vl) {
            return due;
        }
        for (int i = s.vstart; i < s.vl; i++) {
            if (vm == 1 || s.rows.get(0, 1, i) == 1) {
                long first = s.rows.get(VS2, widths[1], i);
                long second = form == 'V' ? s.rows.get(VS1, s.sew, i) : number(s, form, s1);
                due.put(VD, widths[0], i, numbers.due(name, first, second, s.rows.get(VD, widths[0], i), widths[1]));
            } else if (s.ma) {
                s.leaveOpen(due, VD, widths[0], i);
            }
        }
        s.leaveTail(due, VD, widths[0], s.vl, s.ta || widths[0] == 1);
        return due;
    }

    private static long number(Setup s, char form, int s1) {
        long whole = form == 'X' ? s.x[s1] : s1 < 16 ? s1 : s1 - 32;
        return whole & ((1L << s.sew) - 1);
    }

    private static void carries() {
        for (int round = 0; round < 600; round++) {
            Setup s = Setup.random(SOURCE, 8 << (round % 3));
            int funct6 = 16 + SOURCE.nextInt(4);
            boolean isOut = funct6 % 2 == 1;
            boolean isSum = funct6 < 18;
            char form = "VXI".charAt(SOURCE.nextInt(isSum ? 3 : 2));
            int vm = isOut ? SOURCE.nextInt(2) : 0;
            int vd = isOut && SOURCE.nextInt(3) == 0 ? 0 : VD;
            int s1 = form == 'V' ? VS1 : 1 + SOURCE.nextInt(31);
            int bits = form == 'V' ? Asm.IVV : form == 'X' ? Asm.IVX : Asm.IVI;
            Rows due = s.rows.copy();
            long room = 1L << s.sew;
            for (int i = s.vstart; i < s.vl; i++) {
                long first = s.rows.get(VS2, s.sew, i);
                long second = form == 'V' ? s.rows.get(VS1, s.sew, i) : number(s, form, s1);
                long carry = vm == 0 ? s.rows.get(0, 1, i) : 0;
                long exact = isSum ? first + second + carry : first - second - carry;
                due.put(vd, isOut ? 1 : s.sew, i, isOut ? (exact < 0 || exact >= room ? 1 : 0) : exact);
            }
            if (s.vstart < s.vl) {
                s.leaveTail(due, vd, isOut ? 1 : s.sew, s.vl, isOut || s.ta);
            }
            StripMachine m = s.make();
            String what = "carry " + funct6 + form + " e" + s.sew + " vm " + vm;
            Check.due(what, m.step(Asm.op(funct6, vm, VS2, s1, bits, vd)), 0);
            s.sameRows(what, m, due);
            s.sameRest(what, m, 0);
        }
    }

    private static void merges() {
        for (int round = 0; round < 400; round++) {
            Setup s = Setup.random(SOURCE, 8 << (round % 3));
            int vm = SOURCE.nextInt(2);
            char form = "VXI".charAt(SOURCE.nextInt(3));
            int s1 = form == 'V' ? VS1 : 1 + SOURCE.nextInt(31);
            int bits = form == 'V' ? Asm.IVV : form == 'X' ? Asm.IVX : Asm.IVI;
            Rows due = s.rows.copy();
            for (int i = s.vstart; i < s.vl; i++) {
                long second = form == 'V' ? s.rows.get(VS1, s.sew, i) : number(s, form, s1);
                boolean takesSecond = vm == 1 || s.rows.get(0, 1, i) == 1;
                due.put(VD, s.sew, i, takesSecond ? second : s.rows.get(VS2, s.sew, i));
            }
            if (s.vstart < s.vl) {
                s.leaveTail(due, VD, s.sew, s.vl, s.ta);
            }
            StripMachine m = s.make();
            String what = "merge " + form + " e" + s.sew + " vm " + vm;
            Check.due(what, m.step(Asm.op(23, vm, vm == 1 ? 0 : VS2, s1, bits, VD)), 0);
            s.sameRows(what, m, due);
            s.sameRest(what, m, 0);
        }
    }

    private static void leastByMinusOne() {
        for (int sew = 8; sew <= 32; sew *= 2) {
            Setup s = Setup.of(sew, 0, 1);
            s.rows.put(VS2, sew, 0, 1L << (sew - 1));
            s.x[1] = -1;
            StripMachine m = s.make();
            m.step(Asm.op(33, 1, VS2, 1, Asm.MVX, VD));
            Check.due("the least by -1", m.v(4 * VD) & ((1L << sew) - 1), 1L << (sew - 1));
            m.step(Asm.op(35, 1, VS2, 1, Asm.MVX, VD));
            Check.due("the rest of it", m.v(4 * VD), 0);
            m.setX(1, 1 << (sew - 1));
            m.step(Asm.op(39, 1, VS2, 1, Asm.IVX, VD));
            Check.due("vsmul of the least", m.v(4 * VD), (1L << (sew - 1)) - 1);
            Check.due("its VXSAT", m.state(4), 1);
        }
    }
}
