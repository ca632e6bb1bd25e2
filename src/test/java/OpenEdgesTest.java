/** Promises 2 and 3: the edges of VSTART, of TAIL, of elements that are masked off, and of CHOICES, a sentence each. */
public final class OpenEdgesTest {
    private static final int OLD = 0x55;
    private static final String[] MASK_RESULTS = {
        "vmseq.vi v8, v16, 1", "vmadc.vi v8, v16, 1", "vmadc.vim v8, v16, 1, v0", "vmand.mm v8, v16, v16",
        "vmsof.m v8, v16", "vmsltu.vx v8, v16, x0",
    };

    private OpenEdgesTest() {
    }

    public static void main(String[] args) {
        choicesOfElements();
        choicesOfBits();
        choicesFromNowOn();
        tailStays();
        tailIsOpen();
        tailOfAFraction();
        tailOfItsOwnWidth();
        policiesOfAllTypes();
        noTailAtVlmax();
        tailOfMasks();
        maskedOff();
        maskedOffInMasks();
        noneMaskedOff();
        aheadOfStart();
        startAtLength();
        lengthZero();
        goAllTheSame();
        endsWithStartZero();
        Check.end();
    }

    private static void choicesOfElements() {
        Bench b = new Bench("An element i that is left open: bit (i modulo 64)", "e8, m8, ta, mu", 60);
        b.fill(8, 8, OLD);
        b.choose(1L << 63 | 1);
        b.does("vmv.v.i v8, 3");
        b.rowIs(8, 8, 0, 60, 3);
        b.rowIs(8, 8, 60, 63, OLD);
        b.rowIs(8, 8, 63, 65, 0xFF);
        b.rowIs(8, 8, 65, 127, OLD);
        b.rowIs(8, 8, 127, 128, 0xFF);
    }

    private static void choicesOfBits() {
        Bench b = new Bench("A bit i of a mask that is left open: bit (i modulo 64)", "e8, m1, tu, mu", 5);
        b.choose(1L << 63 | 1L << 5 | 1);
        b.does("vmxor.mm v8, v8, v8");
        b.row(8, 32, 1 << 5, 1 << 31, 1 | 1 << 5, 1 << 31);
        b.fill(8, 1, 0xFF);
        b.choose(0);
        b.does("vmxor.mm v8, v8, v8");
        b.row(8, 32, 0xFFFFFFE0, -1, -1, -1);
    }

    private static void choicesFromNowOn() {
        Bench b = new Bench("choose: CHOICES from now on", "e32, m1, ta, mu", 1);
        b.does("vmv.v.i v8, 1");
        b.row(8, 32, 1, 0, 0, 0);
        b.choose(2);
        b.row(8, 32, 1, 0, 0, 0);
        b.does("vmv.v.i v8, 2");
        b.row(8, 32, 2, -1, 0, 0);
        b.choose(4);
        b.does("vmv.v.i v9, 3");
        b.row(9, 32, 3, 0, -1, 0);
        b.does("vmv.v.i v10, 3");
        b.row(10, 32, 3, 0, -1, 0);
        b.choose(0);
        b.does("vmv.v.i v11, 4");
        b.row(11, 32, 4, 0, 0, 0);
    }

    private static void tailStays() {
        Bench b = new Bench("TAIL: they stay if TA is 0", "e8, m2, tu, ma", 3);
        b.fill(8, 3, OLD);
        b.choose(-1);
        b.does("vmv.v.i v8, 3");
        b.row(8, 8, 3, 3, 3);
        b.rowIs(8, 8, 3, 48, OLD);
    }

    private static void tailIsOpen() {
        Bench b = new Bench("TAIL: elements from VL on, else are left open", "e8, m2, ta, mu", 3);
        b.fill(7, 4, OLD);
        b.choose(~8L);
        b.does("vmv.v.i v8, 3");
        b.rowIs(7, 1, OLD);
        b.row(8, 8, 3, 3, 3, OLD, 0xFF, 0xFF);
        b.rowIs(8, 8, 6, 32, 0xFF);
        b.rowIs(10, 1, OLD);
        b.fill(8, 2, OLD);
        b.choose(0);
        b.does("vmv.v.i v8, 3");
        b.rowIs(8, 8, 3, 32, OLD);
    }

    private static void tailOfAFraction() {
        String sentence = "TAIL: all of one register if EMUL is below 1";
        Bench quarter = new Bench(sentence + ": 1/4", "e8, mf4, ta, mu", 2);
        quarter.fill(8, 2, OLD);
        quarter.choose(-1);
        quarter.does("vmv.v.i v8, 3");
        quarter.row(8, 8, 3, 3);
        quarter.rowIs(8, 8, 2, 16, 0xFF);
        quarter.rowIs(9, 1, OLD);
        Bench half = new Bench(sentence + ": 1/2, VL is VLMAX", "e16, mf2, ta, mu", 4);
        half.fill(8, 2, OLD);
        half.choose(-1);
        half.does("vmv.v.i v8, 3");
        half.row(8, 16, 3, 3, 3, 3, -1, -1, -1, -1);
        half.rowIs(9, 1, OLD);
        Bench load = new Bench(sentence + ": a load's", "e32, m1, ta, mu", 3);
        load.fill(8, 2, OLD);
        load.choose(-1);
        load.does("vle8.v v8, (x0)");
        load.row(8, 8, 0, 0, 0);
        load.rowIs(8, 8, 3, 16, 0xFF);
        load.rowIs(9, 1, OLD);
    }

    private static void tailOfItsOwnWidth() {
        String sentence = "TAIL: up to VLMAX of EEW and EMUL";
        Bench wide = new Bench(sentence + ": of twice the SEW", "e8, m1, ta, mu", 3);
        wide.fill(8, 3, OLD);
        wide.choose(-1);
        wide.does("vwaddu.vx v8, v16, x0");
        wide.row(8, 16, 0, 0, 0);
        wide.rowIs(8, 16, 3, 16, -1);
        wide.rowIs(10, 1, OLD);
        Bench narrow = new Bench(sentence + ": of half of vs2's", "e8, m1, ta, mu", 3);
        narrow.fill(8, 2, OLD);
        narrow.choose(-1);
        narrow.does("vnsrl.wi v8, v16, 0");
        narrow.row(8, 8, 0, 0, 0);
        narrow.rowIs(8, 8, 3, 16, -1);
        narrow.rowIs(9, 1, OLD);
        Bench load = new Bench(sentence + ": of a load's EEW", "e8, m1, ta, mu", 3);
        load.fill(8, 5, OLD);
        load.choose(-1);
        load.does("vle32.v v8, (x0)");
        load.row(8, 32, 0, 0, 0);
        load.rowIs(8, 32, 3, 16, -1);
        load.rowIs(12, 1, OLD);
        Bench indexed = new Bench(sentence + ": data have SEW", "e16, m2, ta, mu", 3);
        indexed.fill(8, 3, OLD);
        indexed.choose(-1);
        indexed.does("vluxei8.v v8, (x0), v16");
        indexed.row(8, 16, 0, 0, 0);
        indexed.rowIs(8, 16, 3, 16, -1);
        indexed.rowIs(10, 1, OLD);
    }

    private static void policiesOfAllTypes() {
        String[] types = {
            "e8, mf4", "e8, mf2", "e8, m1", "e8, m2", "e8, m4", "e8, m8", "e16, mf2", "e16, m1", "e16, m2", "e16, m4",
            "e16, m8", "e32, m1", "e32, m2", "e32, m4", "e32, m8",
        };
        for (String type : types) {
            for (String policies : new String[] {"tu, mu", "ta, mu", "tu, ma", "ta, ma"}) {
                Bench t = new Bench("TA is bit 6, MA bit 7, whatever SEW and LMUL are: " + type, type + ", " + policies, 2);
                int sew = Integer.parseInt(type.substring(1, type.indexOf(',')));
                t.choose(-1);
                t.put(0, 8, 0b01);
                t.fill(8, 1, OLD);
                t.does("vadd.vi v8, v16, 1, v0.t");
                t.row(8, sew, 1);
                t.rowIs(8, sew, 1, 2, policies.endsWith("ma") ? -1 : 0x55555555);
                t.rowIs(8, sew, 2, 128 / sew, policies.startsWith("ta") ? -1 : 0x55555555);
            }
        }
    }

    private static void noTailAtVlmax() {
        Bench b = new Bench("TAIL: elements from VL on, with VL at VLMAX none", "e16, m2, ta, mu", 16);
        b.fill(7, 4, OLD);
        b.choose(-1);
        b.does("vmv.v.i v8, 3");
        b.rowIs(8, 16, 0, 16, 3);
        b.rowIs(7, 1, OLD);
        b.rowIs(10, 1, OLD);
    }

    private static void tailOfMasks() {
        String sentence = "TAIL of mask results (bits to 127): always left open";
        for (String policy : new String[] {"tu", "ta"}) {
            for (String text : MASK_RESULTS) {
                Bench b = new Bench(sentence + ", " + policy + ": " + text, "e8, m1, mu, " + policy, 5);
                b.fill(7, 3, OLD);
                b.choose(-1);
                b.does(text);
                b.row(8, 32, 0xFFFFFFE0, -1, -1, -1);
                b.rowIs(7, 1, OLD);
                b.rowIs(9, 1, OLD);
                b.choose(0);
                b.fill(8, 1, OLD);
                b.does(text);
                b.row(8, 32, 0x55555540, 0x55555555, 0x55555555, 0x55555555);
            }
        }
        Bench full = new Bench("TAIL of mask results, VL 128: none", "e8, m8, tu, mu", 128);
        full.choose(-1);
        full.does("vmxor.mm v8, v8, v8");
        full.rowIs(8, 1, 0);
        Bench most = new Bench("TAIL of mask results, VL 127: bit 127", "e8, m8, tu, mu", 127);
        most.choose(-1);
        most.does("vmxor.mm v8, v8, v8");
        most.row(8, 32, 0, 0, 0, 1 << 31);
    }

    private static void maskedOff() {
        String sentence = "Elements that are masked off stay if MA is 0, else are left open";
        Bench stay = new Bench(sentence + ": mu", "e32, m1, ta, mu", 4);
        stay.choose(-1);
        stay.put(0, 32, 0b0101);
        stay.put(8, 32, 7, 8, 9, 10);
        stay.does("vmv.v.i v16, 3");
        stay.does("vadd.vi v8, v16, 1, v0.t");
        stay.row(8, 32, 4, 8, 4, 10);
        Bench open = new Bench(sentence + ": ma", "e32, m1, tu, ma", 4);
        open.choose(0b0010);
        open.put(0, 32, 0b0101);
        open.put(8, 32, 7, 8, 9, 10);
        open.does("vadd.vi v8, v16, 1, v0.t");
        open.row(8, 32, 1, -1, 1, 10);
        open.put(0, 32, 0b110000);
        open.choose(0b1000);
        open.does("vadd.vi v8, v16, 2, v0.t");
        open.row(8, 32, 1, -1, 1, -1);
        Bench last = new Bench(sentence + ": element 127 by bit 127 of v0", "e8, m8, tu, mu", 128);
        last.put(0, 32, 0, 0, 0, 1 << 31);
        last.does("vadd.vi v8, v16, 1, v0.t");
        last.rowIs(8, 8, 0, 127, 0);
        last.rowIs(8, 8, 127, 128, 1);
    }

    private static void maskedOffInMasks() {
        String sentence = "Elements that are masked off, of mask results, too";
        Bench stay = new Bench(sentence + ": mu", "e8, m1, tu, mu", 4);
        stay.put(0, 32, 0b0101);
        stay.put(8, 32, 0b1010);
        stay.choose(0b1111);
        stay.does("vmseq.vi v8, v16, 1, v0.t");
        stay.row(8, 32, 0b1010);
        stay.put(8, 32, 0);
        stay.does("vmsne.vi v8, v16, 1, v0.t");
        stay.row(8, 32, 0b0101);
        Bench open = new Bench(sentence + ": ma", "e8, m1, tu, ma", 4);
        open.put(0, 32, 0b0101);
        open.choose(0b0010);
        open.does("vmseq.vi v8, v16, 1, v0.t");
        open.row(8, 32, 0b0010);
        open.put(8, 32, 0);
        open.does("vmsbf.m v8, v16, v0.t");
        open.row(8, 32, 0b0111);
        Bench own = new Bench(sentence + ": v0 itself", "e8, m1, tu, ma", 4);
        own.put(0, 32, 0b0101);
        own.choose(0b1000);
        own.does("vmseq.vi v0, v16, 1, v0.t");
        own.row(0, 32, 0b1000);
    }

    private static void noneMaskedOff() {
        Bench b = new Bench("vmerge, vadc, vsbc, vmadc, vmsbc: no element is masked off", "e32, m1, tu, ma", 4);
        b.choose(-1);
        b.put(0, 32, 0b0101);
        b.put(16, 32, 7, 8, 9, 10);
        b.does("vmerge.vim v8, v16, 3, v0");
        b.row(8, 32, 3, 8, 3, 10);
        b.does("vadc.vim v8, v16, 3, v0");
        b.row(8, 32, 11, 11, 13, 13);
        b.does("vsbc.vxm v8, v16, x0, v0");
        b.row(8, 32, 6, 8, 8, 10);
        b.choose(0);
        b.put(8, 32, 0b1010);
        b.does("vmadc.vim v8, v16, 3, v0");
        b.row(8, 32, 0);
        b.put(8, 32, 0b1010);
        b.does("vmsbc.vxm v8, v16, x0, v0");
        b.row(8, 32, 0);
    }

    private static void aheadOfStart() {
        String sentence = "VSTART: elements ahead of it stay";
        Bench last = new Bench(sentence + ": but the last", "e32, m1, ta, ma", 3);
        last.choose(-1);
        last.put(8, 32, 7, 8, 9, 10);
        last.set(Bench.VSTART, 2);
        last.does("vmv.v.i v8, 3");
        last.row(8, 32, 7, 8, 3, -1);
        Bench masked = new Bench(sentence + ": masked off, too", "e32, m1, tu, ma", 4);
        masked.choose(-1);
        masked.put(8, 32, 7, 8, 9, 10);
        masked.set(Bench.VSTART, 2);
        masked.does("vadd.vi v8, v16, 1, v0.t");
        masked.row(8, 32, 7, 8, -1, -1);
        Bench bits = new Bench(sentence + ": bits of a mask", "e8, m1, tu, mu", 5);
        bits.put(8, 8, 0b00101);
        bits.set(Bench.VSTART, 3);
        bits.does("vmseq.vi v8, v16, 0");
        bits.row(8, 8, 0b11101);
        bits.set(Bench.VSTART, 4);
        bits.does("vmxor.mm v8, v16, v16");
        bits.row(8, 8, 0b01101);
        Bench sat = new Bench(sentence + ": they do not touch VXSAT", "e32, m1, tu, mu", 2);
        sat.put(16, 32, 0x7FFFFFFF, 1);
        sat.set(Bench.VSTART, 1);
        sat.does("vsadd.vi v8, v16, 1");
        sat.row(8, 32, 0, 2);
        sat.is(Bench.VXSAT, 0);
    }

    private static final String[] NOTHING_DONE = {
        "vsadd.vi v8, v16, 1", "vmerge.vim v8, v16, 3, v0", "vadc.vim v8, v16, 3, v0", "vwadd.vx v8, v16, x1",
        "vnclip.wi v8, v16, 0", "vzext.vf2 v8, v16", "vmseq.vi v8, v16, 1", "vmadc.vi v8, v16, 1", "vmnand.mm v8, v16, v16",
        "vid.v v8", "vmv.s.x v8, x1", "vslideup.vi v8, v16, 1", "vslidedown.vi v8, v16, 1", "vslide1up.vx v8, v16, x1",
        "vslide1down.vx v8, v16, x1", "vrgather.vi v8, v16, 1", "vrgatherei16.vv v8, v16, v24", "vle16.v v8, (x1)",
        "vlse16.v v8, (x1), x1", "vluxei16.v v8, (x1), v16", "vle16ff.v v8, (x1)", "vse16.v v8, (x0)",
        "vsse16.v v8, (x0), x1", "vsoxei16.v v8, (x0), v16", "vse16.v v8, (x1)",
    };

    private static void startAtLength() {
        String sentence = "VSTART: if it is not below VL nothing becomes other than it was, but VSTART 0";
        for (int start : new int[] {3, 4, 8, 127}) {
            for (String text : NOTHING_DONE) {
                nothing(sentence + ", " + start + ": " + text, text, 3, start);
            }
        }
        nothing(sentence + ": vlm", "vlm.v v8, (x1)", 3, 3);
        nothing(sentence + ": vsm", "vsm.v v8, (x0)", 3, 3);
        Bench full = new Bench(sentence + ": VL 128 is beyond all VSTART", "e8, m8, tu, mu", 128);
        full.set(Bench.VSTART, 127);
        full.does("vmv.v.i v8, 3");
        full.rowIs(8, 8, 0, 127, 0);
        full.rowIs(8, 8, 127, 128, 3);
    }

    private static void lengthZero() {
        String sentence = "With VL 0 likewise";
        for (String text : NOTHING_DONE) {
            nothing(sentence + ": " + text, text, 0, 0);
            nothing(sentence + ", VSTART 1: " + text, text, 0, 1);
        }
        String[] more = {
            "vredsum.vs v8, v16, v24", "vwredsum.vs v8, v16, v24", "vmsbf.m v8, v16", "vmsif.m v8, v16", "vmsof.m v8, v16",
            "viota.m v8, v16", "vcompress.vm v8, v16, v24", "vlm.v v8, (x1)", "vsm.v v8, (x0)",
        };
        for (String text : more) {
            nothing(sentence + ": " + text, text, 0, 0);
        }
    }

    /** x1 holds an address beyond the memory. */
    private static void nothing(String sentence, String text, int vl, int start) {
        Bench b = new Bench(sentence, "e16, m1, ta, ma", vl);
        b.choose(-1);
        b.x(1, 5000);
        b.fill(8, 2, OLD);
        b.fill(16, 2, 0x7F);
        b.fill(24, 1, 0x33);
        b.word(0, 1234567);
        b.set(Bench.VSTART, start);
        int sum = b.machine().sum();
        b.does(text);
        b.due("sum()", b.machine().sum(), sum);
        b.is(Bench.VSTART, 0);
        b.is(Bench.VL, vl);
        b.is(Bench.VXSAT, 0);
        b.is(Bench.TRAPS, 0);
        b.isX(1, 5000);
        b.isWord(0, 1234567);
        b.isWord(1, 0);
    }

    private static void goAllTheSame() {
        String sentence = "vmv.x.s, vcpop, vfirst go all the same";
        for (int vl : new int[] {0, 3}) {
            Bench b = new Bench(sentence + ", VL " + vl, "e16, m1, tu, mu", vl);
            b.put(16, 16, 0x8001);
            b.set(Bench.VSTART, 5);
            b.does("vmv.x.s x3, v16");
            b.isX(3, 0xFFFF8001);
            b.is(Bench.VSTART, 0);
        }
        Bench b = new Bench(sentence, "e16, m1, tu, mu", 0);
        b.fill(16, 1, 0xFF);
        b.x(3, 77);
        b.does("vcpop.m x3, v16");
        b.isX(3, 0);
        b.does("vfirst.m x3, v16");
        b.isX(3, -1);
    }

    private static void endsWithStartZero() {
        String[] texts = {
            "vadd.vi v8, v16, 1", "vmseq.vi v8, v16, 1", "vmand.mm v8, v16, v16", "vid.v v8", "vmv.x.s x3, v16",
            "vmv.s.x v8, x3", "vslideup.vi v8, v16, 1", "vrgather.vi v8, v16, 1", "vmv1r.v v8, v16", "vle8.v v8, (x0)",
            "vse8.v v8, (x0)", "vle8ff.v v8, (x0)", "vlse8.v v8, (x0), x0", "vluxei8.v v8, (x0), v16", "vl1re8.v v8, (x0)",
            "vs1r.v v8, (x0)", "vlm.v v8, (x0)", "vsm.v v8, (x0)", "vmerge.vim v8, v16, 1, v0", "vwadd.vx v8, v16, x0",
        };
        for (String text : texts) {
            Bench b = new Bench("All that is done ends with VSTART 0: " + text, "e8, m1, tu, mu", 9);
            b.set(Bench.VSTART, 1);
            b.does(text);
            b.is(Bench.VSTART, 0);
        }
    }
}
