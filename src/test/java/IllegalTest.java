import java.util.HashMap;
import java.util.Map;
import java.util.Random;

/** Promise 2: which words are ILLEGAL. */
public final class IllegalTest {
    // bits 31 .. 26 with the forms that stand in the document, and what bit 25 must be (*: either)
    private static final String[] FORMS_I = {
        "0 VXI *", "2 VX *", "3 XI *", "4 VX *", "5 VX *", "6 VX *", "7 VX *", "9 VXI *", "10 VXI *", "11 VXI *",
        "12 VXI *", "14 VXI *", "15 XI *", "16 VXI 0", "17 VXI *", "18 VX 0", "19 VX *", "23 VXI 0",
        "24 VXI *", "25 VXI *", "26 VX *", "27 VX *", "28 VXI *", "29 VXI *", "30 XI *", "31 XI *",
        "32 VXI *", "33 VXI *", "34 VX *", "35 VX *", "37 VXI *", "39 VX *", "40 VXI *", "41 VXI *", "42 VXI *",
        "43 VXI *", "44 VXI *", "45 VXI *", "46 VXI *", "47 VXI *", "48 V *", "49 V *",
    };
    private static final String[] FORMS_M = {
        "0 V *", "1 V *", "2 V *", "3 V *", "4 V *", "5 V *", "6 V *", "7 V *", "8 VX *", "9 VX *", "10 VX *", "11 VX *",
        "14 X *", "15 X *", "23 V 1", "24 V 1", "25 V 1", "26 V 1", "27 V 1", "28 V 1", "29 V 1", "30 V 1", "31 V 1",
        "32 VX *", "33 VX *", "34 VX *", "35 VX *", "36 VX *", "37 VX *", "38 VX *", "39 VX *", "41 VX *", "43 VX *",
        "45 VX *", "47 VX *", "48 VX *", "49 VX *", "50 VX *", "51 VX *", "52 VX *", "53 VX *", "54 VX *", "55 VX *",
        "56 VX *", "58 VX *", "59 VX *", "60 VX *", "61 VX *", "62 X *", "63 VX *",
    };

    private IllegalTest() {
    }

    public static void main(String[] args) {
        words();
        selectors();
        codes();
        ill();
        nothingChanges();
        masked();
        groups();
        Check.end();
    }

    private static int answer(int sew, int lmulCode, int word) {
        return answer(Setup.of(sew, lmulCode, 1), word);
    }

    private static int answer(Setup s, int word) {
        StripMachine m = new StripMachine();
        m.setX(5, s.vl);
        m.step(Asm.vsetvli(0, 5, s.vtype()));
        m.setState(2, s.vstart);
        return m.step(word);
    }

    private static void words() {
        Map<Integer, String> rows = new HashMap<>();
        for (String row : FORMS_I) {
            rows.put(Integer.parseInt(row.split(" ")[0]), row);
        }
        for (String row : FORMS_M) {
            rows.put(64 + Integer.parseInt(row.split(" ")[0]), row);
        }
        for (int form = 0; form < 7; form++) {
            boolean isM = form == Asm.MVV || form == Asm.MVX;
            String letter = form == Asm.IVV || form == Asm.MVV ? "V" : form == Asm.IVI ? "I" : form == Asm.IVX || form == Asm.MVX ? "X" : "-";
            for (int funct6 = 0; funct6 < 64; funct6++) {
                if (isM && (funct6 == 16 || funct6 == 18 || funct6 == 20)) {
                    continue;
                }
                String row = rows.get((isM ? 64 : 0) + funct6);
                for (int vm = 0; vm < 2; vm++) {
                    boolean legal = row != null && row.split(" ")[1].contains(letter) && !row.endsWith(" " + (1 - vm));
                    if (form == Asm.IVI && funct6 == 39) {
                        continue;
                    }
                    String what = "form " + form + " operation " + funct6 + " vm " + vm;
                    Check.due(what, answer(8, 0, Asm.op(funct6, vm, 16, 24, form, 8)), legal ? 0 : 1);
                }
            }
        }
    }

    private static void selectors() {
        for (int selector = 0; selector < 32; selector++) {
            for (int vm = 0; vm < 2; vm++) {
                boolean scalar = selector == 0 && vm == 1 || selector == 16 || selector == 17;
                Check.due("operation 16 of " + selector, answer(8, 0, Asm.op(16, vm, 16, selector, Asm.MVV, 8)), scalar ? 0 : 1);
                boolean write = selector == 0 && vm == 1;
                Check.due("vmv.s.x of " + selector, answer(8, 0, Asm.op(16, vm, selector, 3, Asm.MVX, 8)), write ? 0 : 1);
                boolean mask = selector >= 1 && selector <= 3 || selector == 16;
                Check.due("operation 20 of " + selector, answer(8, 0, Asm.op(20, vm, 16, selector, Asm.MVV, 8)), mask ? 0 : 1);
                Check.due("vid of " + selector, answer(8, 0, Asm.op(20, vm, selector, 17, Asm.MVV, 8)), selector == 0 ? 0 : 1);
                Check.due("vmv.v of " + selector, answer(8, 0, Asm.op(23, 1, selector, 4, Asm.IVV, 8)), selector == 0 ? 0 : 1);
                Check.due("operation 18 of " + selector + " at 8", answer(8, 0, Asm.op(18, vm, 16, selector, Asm.MVV, 8)), 1);
                boolean half = selector == 6 || selector == 7;
                Check.due("operation 18 of " + selector + " at 16", answer(16, 0, Asm.op(18, vm, 16, selector, Asm.MVV, 8)), half ? 0 : 1);
                boolean any = selector >= 4 && selector <= 7;
                Check.due("operation 18 of " + selector + " at 32", answer(32, 0, Asm.op(18, vm, 16, selector, Asm.MVV, 8)), any ? 0 : 1);
                boolean whole = vm == 1 && (selector == 0 || selector == 1 || selector == 3 || selector == 7);
                Check.due("vmvr of " + selector, answer(8, 0, Asm.op(39, vm, 16, selector, Asm.IVI, 8)), whole ? 0 : 1);
            }
        }
        for (int number = 0; number < 32; number++) {
            for (int count = 1; count <= 8; count *= 2) {
                int due = number % count == 0 ? 0 : 1;
                Check.due("vmv" + count + "r to " + number, answer(8, 0, Asm.op(39, 1, 0, count - 1, Asm.IVI, number)), due);
                Check.due("vmv" + count + "r from " + number, answer(8, 3, Asm.op(39, 1, number, count - 1, Asm.IVI, 0)), due);
            }
        }
    }

    private static void codes() {
        for (int code = 0; code < 128; code++) {
            boolean vector = code == 0x57 || code == 0x07 || code == 0x27;
            Check.due("code " + code, answer(8, 0, Asm.op(0, 1, 0, 24, Asm.IVV, 8) & ~127 | code), vector ? 0 : 1);
        }
        Check.due("a word of zeros", answer(8, 0, 0), 1);
        Check.due("a word of ones", answer(8, 0, -1), 1);
    }

    private static void ill() {
        int[] words = {
            Asm.op(0, 1, 16, 24, Asm.IVV, 8), Asm.op(39, 1, 16, 0, Asm.IVI, 8), Asm.op(16, 1, 16, 0, Asm.MVV, 8),
            Asm.op(16, 1, 0, 3, Asm.MVX, 8), Asm.op(25, 1, 16, 24, Asm.MVV, 8), Asm.op(16, 1, 16, 16, Asm.MVV, 8),
            Asm.op(0, 1, 16, 24, Asm.MVV, 8), Asm.load(8, Asm.UNIT, 1, 0, 1, 8), Asm.load(8, Asm.UNIT, 1, 11, 1, 8),
            Asm.load(8, Asm.UNIT, 1, 16, 1, 8), Asm.load(8, Asm.STRIDED, 1, 0, 1, 8), Asm.load(8, Asm.ORDERED, 1, 0, 1, 8),
            Asm.store(8, Asm.UNIT, 1, 0, 1, 8), Asm.store(8, Asm.UNIT, 1, 11, 1, 8), Asm.op(23, 1, 16, 24, Asm.MVV, 8),
        };
        for (int word : words) {
            StripMachine m = new StripMachine();
            Check.due("VILL " + word, m.step(word), 1);
            Check.due("VILL counts", m.state(7), 1);
        }
        StripMachine m = new StripMachine();
        Check.due("vl1re8 under VILL", m.step(Asm.load(8, Asm.UNIT, 1, 8, 1, 8)), 0);
        Check.due("vl8re32 under VILL", m.step(Asm.fields(Asm.load(32, Asm.UNIT, 1, 8, 1, 8), 7)), 0);
        Check.due("vs1r under VILL", m.step(Asm.store(8, Asm.UNIT, 1, 8, 1, 8)), 0);
        Check.due("done under VILL", m.state(6), 3);
    }

    private static void nothingChanges() {
        Random source = new Random(5);
        int[] words = {
            Asm.op(0, 1, 17, 24, Asm.IVV, 8), Asm.op(48, 1, 16, 24, Asm.MVV, 8), Asm.op(0, 0, 16, 24, Asm.IVV, 0),
            Asm.op(0, 1, 16, 24, Asm.MVV, 8), Asm.op(20, 1, 16, 16, Asm.MVV, 8), Asm.op(16, 1, 16, 17, Asm.MVV, 9),
            Asm.op(20, 1, 16, 1, Asm.MVV, 8), Asm.op(23, 1, 16, 24, Asm.MVV, 8), Asm.op(14, 1, 8, 3, Asm.IVI, 8), 0x1234567,
        };
        for (int word : words) {
            Setup s = Setup.random(source, 32);
            s.lmulCode = 1;
            s.vl = 7;
            s.vstart = 2;
            StripMachine m = s.make();
            Check.due("illegal " + word, m.step(word), 1);
            s.sameRows("illegal " + word, m, s.rows);
            s.sameRest("illegal " + word, m, 1);
            Check.due("VXSAT stays", m.state(4), s.vxsat);
            for (int k = 1; k < 32; k++) {
                Check.due("x stays", m.x(k), s.x[k]);
            }
        }
        for (int funct6 : new int[] {0, 7}) {
            Setup s = Setup.of(8, 0, 0);
            s.vstart = 1;
            Check.due("a reduction with VSTART", answer(s, Asm.op(funct6, 1, 16, 24, Asm.MVV, 8)), 1);
            Check.due("a wide one with VSTART", answer(s, Asm.op(48, 1, 16, 24, Asm.IVV, 8)), 1);
        }
        Setup s = Setup.of(8, 0, 9);
        s.vstart = 1;
        for (int selector : new int[] {1, 2, 3, 16}) {
            Check.due("mask operation with VSTART", answer(s, Asm.op(20, 1, 16, selector, Asm.MVV, 8)), 1);
        }
        Check.due("vid with VSTART", answer(s, Asm.op(20, 1, 0, 17, Asm.MVV, 8)), 0);
        Check.due("vcpop with VSTART", answer(s, Asm.op(16, 1, 16, 16, Asm.MVV, 8)), 1);
        Check.due("vmv.x.s with VSTART", answer(s, Asm.op(16, 1, 16, 0, Asm.MVV, 8)), 0);
        Check.due("vmand with VSTART", answer(s, Asm.op(25, 1, 16, 24, Asm.MVV, 8)), 0);
        Check.due("vcompress with VSTART", answer(s, Asm.op(23, 1, 16, 24, Asm.MVV, 8)), 1);
    }

    private static void masked() {
        int[][] cases = {
            {Asm.op(0, 0, 16, 24, Asm.IVV, 0), 1}, {Asm.op(23, 0, 16, 24, Asm.IVV, 0), 1},
            {Asm.op(16, 0, 16, 24, Asm.IVV, 0), 1}, {Asm.op(18, 0, 16, 24, Asm.IVV, 0), 1},
            {Asm.op(17, 0, 16, 24, Asm.IVV, 0), 0}, {Asm.op(19, 0, 16, 24, Asm.IVV, 0), 0},
            {Asm.op(24, 0, 16, 24, Asm.IVV, 0), 0}, {Asm.op(31, 0, 16, 24, Asm.IVX, 0), 0},
            {Asm.op(0, 0, 16, 24, Asm.MVV, 0), 0}, {Asm.op(48, 0, 16, 24, Asm.IVV, 0), 0},
            {Asm.op(20, 0, 16, 1, Asm.MVV, 0), 1}, {Asm.op(20, 0, 16, 2, Asm.MVV, 0), 1},
            {Asm.op(20, 0, 16, 3, Asm.MVV, 0), 1}, {Asm.op(20, 0, 16, 16, Asm.MVV, 0), 1},
            {Asm.op(20, 0, 0, 17, Asm.MVV, 0), 1}, {Asm.op(20, 1, 0, 17, Asm.MVV, 0), 0},
            {Asm.op(16, 0, 16, 16, Asm.MVV, 0), 0}, {Asm.op(16, 0, 16, 17, Asm.MVV, 0), 0},
            {Asm.op(48, 0, 16, 24, Asm.MVV, 0), 1}, {Asm.op(44, 0, 16, 24, Asm.IVV, 0), 1},
            {Asm.op(15, 0, 16, 3, Asm.IVI, 0), 1}, {Asm.op(14, 0, 16, 3, Asm.MVX, 0), 1},
            {Asm.load(8, Asm.UNIT, 0, 0, 1, 0), 1}, {Asm.load(8, Asm.UNIT, 1, 0, 1, 0), 0},
            {Asm.load(8, Asm.STRIDED, 0, 0, 1, 0), 1}, {Asm.load(8, Asm.UNORDERED, 0, 16, 1, 0), 1},
            {Asm.store(8, Asm.UNIT, 0, 0, 1, 0), 0}, {Asm.store(8, Asm.ORDERED, 0, 16, 1, 0), 0},
            {Asm.op(0, 0, 0, 0, Asm.IVV, 8), 0},
        };
        for (int[] one : cases) {
            Check.due("masked " + Integer.toHexString(one[0]), answer(8, 0, one[0]), one[1]);
        }
        for (int vd = 0; vd < 32; vd++) {
            Check.due("masked vadd to " + vd, answer(8, 0, Asm.op(0, 0, vd, vd, Asm.IVV, vd)), vd == 0 ? 1 : 0);
            Check.due("masked vle8 to " + vd, answer(8, 0, Asm.load(8, Asm.UNIT, 0, 0, 1, vd)), vd == 0 ? 1 : 0);
            Check.due("masked vse8 of " + vd, answer(8, 0, Asm.store(8, Asm.UNIT, 0, 0, 1, vd)), 0);
            Check.due("masked vmseq to " + vd, answer(8, 0, Asm.op(24, 0, vd, vd, Asm.IVV, vd)), 0);
        }
    }

    /** vd, vs2, vs1 of all numbers, for operations of all widths; -1: there is none, 0: the rule of reductions. */
    private static void groups() {
        for (int sew = 8; sew <= 32; sew *= 2) {
            for (int lmulCode : Setup.LMUL_CODES) {
                Setup s = Setup.of(sew, lmulCode, 1);
                if (sew > 4 * s.eighths()) {
                    continue;
                }
                pairs(s, "vadd.vv", Asm.op(0, 1, 0, 0, Asm.IVV, 0), sew, sew, sew, false);
                pairs(s, "vadd.vx", Asm.op(0, 1, 0, 0, Asm.IVX, 0), sew, sew, -1, false);
                pairs(s, "vmseq.vv", Asm.op(24, 1, 0, 0, Asm.IVV, 0), 1, sew, sew, false);
                pairs(s, "vmadc.vv", Asm.op(17, 0, 0, 0, Asm.IVV, 0), 1, sew, sew, false);
                pairs(s, "vwadd.vv", Asm.op(49, 1, 0, 0, Asm.MVV, 0), 2 * sew, sew, sew, false);
                pairs(s, "vwadd.wv", Asm.op(53, 1, 0, 0, Asm.MVV, 0), 2 * sew, 2 * sew, sew, false);
                pairs(s, "vwmacc.vx", Asm.op(61, 1, 0, 0, Asm.MVX, 0), 2 * sew, sew, -1, false);
                pairs(s, "vnsrl.wv", Asm.op(44, 1, 0, 0, Asm.IVV, 0), sew, 2 * sew, sew, false);
                pairs(s, "vnclip.wi", Asm.op(47, 1, 0, 0, Asm.IVI, 0), sew, 2 * sew, -1, false);
                pairs(s, "vzext.vf2", Asm.op(18, 1, 0, 6, Asm.MVV, 0), sew, sew / 2, -1, false);
                pairs(s, "vsext.vf4", Asm.op(18, 1, 0, 5, Asm.MVV, 0), sew, sew / 4, -1, false);
                pairs(s, "vmand", Asm.op(25, 1, 0, 0, Asm.MVV, 0), 1, 1, 1, false);
                pairs(s, "vmsbf", Asm.op(20, 1, 0, 1, Asm.MVV, 0), 1, 1, -1, true);
                pairs(s, "viota", Asm.op(20, 1, 0, 16, Asm.MVV, 0), sew, 1, -1, true);
                pairs(s, "vslideup", Asm.op(14, 1, 0, 1, Asm.IVI, 0), sew, sew, -1, true);
                pairs(s, "vslidedown", Asm.op(15, 1, 0, 1, Asm.IVI, 0), sew, sew, -1, false);
                pairs(s, "vslide1up", Asm.op(14, 1, 0, 0, Asm.MVX, 0), sew, sew, -1, true);
                pairs(s, "vslide1down", Asm.op(15, 1, 0, 0, Asm.MVX, 0), sew, sew, -1, false);
                pairs(s, "vrgather.vv", Asm.op(12, 1, 0, 0, Asm.IVV, 0), sew, sew, sew, true);
                pairs(s, "vrgather.vi", Asm.op(12, 1, 0, 0, Asm.IVI, 0), sew, sew, -1, true);
                pairs(s, "vrgatherei16", Asm.op(14, 1, 0, 0, Asm.IVV, 0), sew, sew, 16, true);
                pairs(s, "vcompress", Asm.op(23, 1, 0, 0, Asm.MVV, 0), sew, sew, 1, true);
                singles(s, "vid", Asm.op(20, 1, 0, 17, Asm.MVV, 0), sew);
                singles(s, "vmv.v.i", Asm.op(23, 1, 0, 3, Asm.IVI, 0), sew);
                singles(s, "vmsbf of v24", Asm.op(20, 1, 24, 1, Asm.MVV, 0), 1, 24);
                singles(s, "vmsof of v24", Asm.op(20, 1, 24, 2, Asm.MVV, 0), 1, 24);
                singles(s, "vmsif of v24", Asm.op(20, 1, 24, 3, Asm.MVV, 0), 1, 24);
                for (int eew = 8; eew <= 32; eew *= 2) {
                    pairs(s, "vluxei" + eew, Asm.load(eew, Asm.UNORDERED, 1, 0, 1, 0), sew, eew, -1, false);
                    singles(s, "vle" + eew, Asm.load(eew, Asm.UNIT, 1, 0, 1, 0), eew);
                    singles(s, "vse" + eew, Asm.store(eew, Asm.UNIT, 1, 0, 1, 0), eew);
                }
                reductions(s);
            }
        }
    }

    private static void pairs(Setup s, String name, int word, int ofVd, int ofVs2, int ofVs1, boolean apart) {
        // All numbers near v16, and some further off, stand for all.
        int[] numbers = {0, 8, 12, 14, 15, 16, 17, 18, 19, 20, 22, 23, 24, 31};
        for (int vd : numbers) {
            for (int vs2 : numbers) {
                if (ofVs1 < 0) {
                    ask(s, name, word | vd << 7 | vs2 << 20, legal(s, vd, ofVd, vs2, ofVs2, apart) && stands(s, vd, ofVd));
                    continue;
                }
                for (int vs1 : numbers) {
                    boolean legal = stands(s, vd, ofVd) && legal(s, vd, ofVd, vs2, ofVs2, apart) && legal(s, vd, ofVd, vs1, ofVs1, apart);
                    ask(s, name, word | vd << 7 | vs2 << 20 | vs1 << 15, legal);
                }
            }
        }
    }

    private static void ask(Setup s, String name, int word, boolean legal) {
        Check.due(name + " e" + s.sew + " lmul " + s.lmulCode + " " + Integer.toHexString(word), answer(s, word), legal ? 0 : 1);
    }

    private static void singles(Setup s, String name, int word, int eew) {
        singles(s, name, word, eew, -1);
    }

    private static void singles(Setup s, String name, int word, int eew, int except) {
        for (int number = 0; number < 32; number++) {
            ask(s, name, word | number << 7, stands(s, number, eew) && number != except);
        }
    }

    private static void reductions(Setup s) {
        for (int number = 0; number < 32; number++) {
            boolean aligned = stands(s, number, s.sew);
            ask(s, "vredsum", Asm.op(0, 1, number, 17, Asm.MVV, 19), aligned);
            ask(s, "vredsum", Asm.op(0, 1, 16, number, Asm.MVV, number), true);
            ask(s, "vwredsum", Asm.op(49, 1, number, 17, Asm.IVV, 19), aligned && s.sew < 32);
            ask(s, "vwredsum", Asm.op(49, 1, 16, number, Asm.IVV, number), s.sew < 32);
            ask(s, "vmv.x.s", Asm.op(16, 1, number, 0, Asm.MVV, 3), true);
            ask(s, "vmv.s.x", Asm.op(16, 1, 0, 3, Asm.MVX, number), true);
            ask(s, "vcpop", Asm.op(16, 1, number, 16, Asm.MVV, 3), true);
        }
    }

    private static boolean stands(Setup s, int number, int eew) {
        boolean width = eew == 1 || eew == 8 || eew == 16 || eew == 32;
        return width && s.eighthsOf(eew) <= 64 && number % s.registersOf(eew) == 0;
    }

    private static boolean legal(Setup s, int vd, int ofVd, int source, int ofSource, boolean apart) {
        if (!stands(s, source, ofSource)) {
            return false;
        }
        int lastVd = vd + s.registersOf(ofVd) - 1;
        int lastSource = source + s.registersOf(ofSource) - 1;
        boolean common = false;
        for (int k = vd; k <= lastVd; k++) {
            common |= k >= source && k <= lastSource;
        }
        if (!common) {
            return true;
        }
        if (apart) {
            return false;
        }
        if (ofVd < ofSource) {
            return vd == source;
        }
        return ofVd == ofSource || s.eighthsOf(ofSource) >= 8 && lastVd == lastSource;
    }
}
