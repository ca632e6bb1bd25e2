import java.util.Random;

/** Promise 2: loads and stores, and promise 10: pages that are shut. */
public final class MemoryTest {
    private static final Random SOURCE = new Random(1024);
    private static final int V = 8;
    private static final int INDEX = 16;
    // The tests see 32 words of the memory, 4 to 35: an object has but 512 calls.
    private static final int FROM = 4;
    private static final int TO = 36;

    private MemoryTest() {
    }

    public static void main(String[] args) {
        for (int round = 0; round < 4000; round++) {
            any();
        }
        ends();
        resumes();
        firstOnly();
        maskBytes();
        wholes();
        words();
        Check.end();
    }

    /** One load or store of any way, with pages shut at random. */
    private static void any() {
        Setup s = Setup.random(SOURCE, 8 << SOURCE.nextInt(3));
        int eew = 8 << SOURCE.nextInt(3);
        int way = SOURCE.nextInt(4);
        boolean isIndexed = way == Asm.UNORDERED || way == Asm.ORDERED;
        boolean isStore = SOURCE.nextBoolean();
        boolean isFirstOnly = way == Asm.UNIT && !isStore && SOURCE.nextBoolean();
        int vm = SOURCE.nextInt(2);
        int stride = SOURCE.nextInt(9) - 4;
        s.x[1] = 16 + SOURCE.nextInt(100);
        s.x[2] = stride;
        int shut = SOURCE.nextInt(3);
        if (isIndexed) {
            for (int i = 0; i < 128 && s.eighthsOf(eew) <= 64 && i < s.vlmax(); i++) {
                s.rows.put(INDEX, eew, i, SOURCE.nextInt(60));
            }
        }
        int second = way == Asm.UNIT ? (isFirstOnly ? 16 : 0) : way == Asm.STRIDED ? 2 : INDEX;
        int word = isStore ? Asm.store(eew, way, vm, second, 1, V) : Asm.load(eew, way, vm, second, 1, V);
        int width = isIndexed ? s.sew : eew;
        String what = Integer.toHexString(word) + " e" + s.sew + " lmul " + s.lmulCode + " vl " + s.vl + " vstart " + s.vstart;
        byte[] memory = new byte[1024];
        StripMachine m = s.make();
        fill(m, memory);
        m.shut(shut, true);
        int answer = m.step(word);
        if (s.eighthsOf(eew) > 64) {
            Check.due(what, answer, 1);
            s.sameRows(what, m, s.rows);
            return;
        }
        Rows due = s.rows.copy();
        int vl = s.vl;
        int failed = -1;
        for (int i = s.vstart; i < vl && failed < 0; i++) {
            int address = s.x[1] + (isIndexed ? (int) s.rows.get(INDEX, eew, i) : way == Asm.STRIDED ? i * stride : i * eew / 8);
            if (vm == 0 && s.rows.get(0, 1, i) == 0) {
                if (!isStore && s.ma) {
                    s.leaveOpen(due, V, width, i);
                }
            } else if (fails(address, width / 8, shut)) {
                failed = i;
                Check.due(what + " address", m.state(9), isFirstOnly && i > 0 ? 0 : address);
            } else if (isStore) {
                for (int k = 0; k < width / 8; k++) {
                    memory[address + k] = (byte) (s.rows.get(V, width, i) >> (8 * k));
                }
            } else {
                long value = 0;
                for (int k = width / 8 - 1; k >= 0; k--) {
                    value = value * 256 + (memory[address + k] & 255);
                }
                due.put(V, width, i, value);
            }
        }
        boolean isTrap = failed == 0 || failed > 0 && !isFirstOnly;
        if (failed > 0 && isFirstOnly) {
            vl = failed;
        }
        if (!isTrap && !isStore && s.vstart < s.vl) {
            s.leaveTail(due, V, width, vl, s.ta);
        }
        Check.due(what, answer, isTrap ? 2 : 0);
        Check.due(what + " VL", m.state(0), vl);
        Check.due(what + " VSTART", m.state(2), isTrap ? failed : 0);
        Check.due(what + " done", m.state(6), isTrap ? 1 : 2);
        Check.due(what + " traps", m.state(8), isTrap ? 1 : 0);
        s.sameRows(what, m, due);
        sameMemory(what, m, memory);
    }

    private static void fill(StripMachine m, byte[] memory) {
        for (int k = FROM; k < TO; k++) {
            int word = SOURCE.nextInt();
            m.setWord(k, word);
            for (int b = 0; b < 4; b++) {
                memory[4 * k + b] = (byte) (word >> (8 * b));
            }
        }
    }

    private static void sameMemory(String what, StripMachine m, byte[] memory) {
        for (int k = FROM - 4; k < TO + 40; k++) {
            int word = 0;
            for (int b = 3; b >= 0; b--) {
                word = word << 8 | memory[4 * k + b] & 255;
            }
            Check.due(what + " word(" + k + ")", m.word(k), word);
        }
    }

    private static boolean fails(int address, int bytes, int shut) {
        for (int k = 0; k < bytes; k++) {
            int at = address + k;
            if (at < 0 || at >= 1024 || at / 64 == shut) {
                return true;
            }
        }
        return false;
    }

    /** The memory's ends, and addresses that go round. */
    private static void ends() {
        int[][] cases = {
            {0, 8, 0}, {1023, 8, 0}, {1024, 8, 2}, {1022, 16, 0}, {1023, 16, 2}, {1020, 32, 0}, {1021, 32, 2},
            {-1, 8, 2}, {-1, 16, 2}, {-2, 32, 2}, {Integer.MIN_VALUE, 8, 2}, {Integer.MAX_VALUE, 32, 2}, {3, 32, 0},
        };
        for (int[] one : cases) {
            Setup s = Setup.of(one[1], 0, 1);
            s.x[1] = one[0];
            StripMachine m = s.make();
            m.setWord(255, 0x44332211);
            m.setWord(0, 0x08070605);
            Check.due("load at " + one[0] + " of " + one[1], m.step(Asm.load(one[1], Asm.UNIT, 1, 0, 1, V)), one[2]);
            Check.due("its address", m.state(9), one[2] == 2 ? one[0] : 0);
            Check.due("store at " + one[0] + " of " + one[1], m.step(Asm.store(one[1], Asm.UNIT, 1, 0, 1, V)), one[2]);
            Check.due("the last word stays", m.word(255), 0x44332211);
            Check.due("traps", m.state(8), one[2]);
        }
        Setup s = Setup.of(8, 0, 4);
        s.x[1] = 2;
        s.x[2] = Integer.MIN_VALUE;
        s.rows.put(INDEX, 32, 0, 0xFFFFFFFEL);
        s.rows.put(INDEX, 32, 1, 0xFFFFFFFFL);
        s.rows.put(INDEX, 32, 2, 1021);
        s.rows.put(INDEX, 32, 3, 1022);
        StripMachine m = s.make();
        m.setWord(0, 0x44332211);
        m.setWord(255, 0x99000000);
        Check.due("indices go round", m.step(Asm.load(32, Asm.UNORDERED, 1, INDEX, 1, V)), 2);
        Check.due("the failing index", m.state(2), 3);
        Check.due("its address", m.state(9), 1024);
        Check.due("what came ahead of it", m.v(4 * V), 0x00992211);
        m.setState(2, 0);
        Check.due("strides", m.step(Asm.load(8, Asm.STRIDED, 1, 2, 1, V)), 2);
        Check.due("the second fails", m.state(2), 1);
        Check.due("its address", m.state(9), Integer.MIN_VALUE + 2);
        m.setState(2, 2);
        m.setWord(0, 0x00550000);
        Check.due("strides go round", m.step(Asm.load(8, Asm.STRIDED, 1, 2, 1, V)), 2);
        Check.due("the third is as the first", m.v(4 * V), 0x00552233);
        Check.due("the fourth fails", m.state(2), 3);
        m.step(Asm.vsetivli(0, 3, 0));
        Check.due("a stride of x0", m.step(Asm.load(8, Asm.STRIDED, 1, 0, 1, V)), 0);
        Check.due("one byte for all", m.v(4 * V), 0x00555555);
    }

    private static void resumes() {
        Setup s = Setup.of(16, 1, 12);
        s.ta = true;
        s.ma = true;
        s.choices = -1L;
        s.x[1] = 52;
        s.rows.put(0, 16, 0, 0b1111_1111_1101);
        StripMachine m = s.make();
        m.setWord(13, 0x22221111);
        m.setWord(16, 0x66665555);
        m.shut(1, true);
        Check.due("a trap", m.step(Asm.load(16, Asm.UNIT, 0, 0, 1, V)), 2);
        Check.due("VSTART", m.state(2), 6);
        Check.due("the address", m.state(9), 64);
        Check.due("masked off ahead of it is open", m.v(4 * V), 0xFFFF1111);
        Check.due("the failing one stays", m.v(4 * V + 3), 0);
        Check.due("the tail stays", m.v(4 * V + 6), 0);
        m.setWord(13, 0);
        m.shut(1, false);
        Check.due("again", m.step(Asm.load(16, Asm.UNIT, 0, 0, 1, V)), 0);
        Check.due("ahead of VSTART stays", m.v(4 * V), 0xFFFF1111);
        Check.due("from it on", m.v(4 * V + 3), 0x66665555);
        Check.due("the tail is open", m.v(4 * V + 6), -1);
        Check.due("VSTART 0", m.state(2), 0);
        Check.due("the address of the latest trap", m.state(9), 64);
        m.shut(15, true);
        m.shut(15, true);
        m.shut(15, false);
        m.setX(1, 1000);
        Check.due("opened once", m.step(Asm.load(16, Asm.UNIT, 1, 0, 1, V)), 0);
    }

    private static void firstOnly() {
        for (int ta = 0; ta < 2; ta++) {
            Setup s = Setup.of(8, 0, 10);
            s.ta = ta == 1;
            s.choices = 0b1010_0000_0000_0000L | 0b0110_0000L;
            s.x[1] = 60;
            StripMachine m = s.make();
            m.setWord(15, 0x04030201);
            m.shut(1, true);
            Check.due("vle8ff", m.step(Asm.load(8, Asm.UNIT, 1, 16, 1, V)), 0);
            Check.due("VL is cut", m.state(0), 4);
            Check.due("no trap", m.state(8), 0);
            Check.due("what came", m.v(4 * V), 0x04030201);
            Check.due("the tail by the new VL", m.v(4 * V + 1), ta == 1 ? 0x00FFFF00 : 0);
            Check.due("the tail's end", m.v(4 * V + 3), ta == 1 ? 0xFF00FF00 : 0);
            m.setX(1, 64);
            Check.due("element 0", m.step(Asm.load(8, Asm.UNIT, 1, 16, 1, V)), 2);
            Check.due("VL stays", m.state(0), 4);
            Check.due("VSTART", m.state(2), 0);
            Check.due("address", m.state(9), 64);
            m.setState(2, 2);
            Check.due("from VSTART on", m.step(Asm.load(8, Asm.UNIT, 1, 16, 1, V)), 0);
            Check.due("VL is VSTART", m.state(0), 2);
            Check.due("VSTART is 0", m.state(2), 0);
            m.setV(0, 0b10);
            Check.due("element 0 masked off", m.step(Asm.load(8, Asm.UNIT, 0, 16, 1, V)), 0);
            Check.due("VL is 1", m.state(0), 1);
        }
    }

    private static void maskBytes() {
        for (int vl = 0; vl <= 128; vl++) {
            Setup s = Setup.of(8, 3, vl);
            s.choices = 0xA5F0L;
            s.x[1] = 32;
            for (int i = 0; i < 16; i++) {
                s.rows.put(V + 1, 8, i, 0x30 + i);
            }
            StripMachine m = s.make();
            for (int k = 8; k < 12; k++) {
                m.setWord(k, 0x11111111);
            }
            Check.due("vlm", m.step(Asm.load(8, Asm.UNIT, 1, 11, 1, V + 1)), 0);
            int bytes = (vl + 7) / 8;
            Rows due = s.rows.copy();
            for (int i = 0; i < 16 && vl > 0; i++) {
                if (i < bytes || s.chosen(i)) {
                    due.put(V + 1, 8, i, i < bytes ? 0x11 : 0xFF);
                }
            }
            s.sameRows("vlm of " + vl, m, due);
            m.setX(1, 64);
            Check.due("vsm", m.step(Asm.store(8, Asm.UNIT, 1, 11, 1, V + 1)), 0);
            for (int k = 0; k < 5; k++) {
                int left = Math.max(0, Math.min(4, bytes - 4 * k));
                Check.due("vsm of " + vl, m.word(16 + k), 0x11111111 & (int) ((1L << (8 * left)) - 1));
            }
        }
        Setup s = Setup.of(8, 3, 100);
        s.x[1] = 60;
        StripMachine m = s.make();
        m.shut(1, true);
        Check.due("vlm that fails", m.step(Asm.load(8, Asm.UNIT, 1, 11, 1, V)), 2);
        Check.due("VSTART in bytes", m.state(2), 4);
        m.setState(2, 13);
        Check.due("VSTART behind its bytes", m.step(Asm.load(8, Asm.UNIT, 1, 11, 1, V)), 0);
    }

    private static void wholes() {
        for (int count = 1; count <= 8; count *= 2) {
            for (int eew = 8; eew <= 32; eew *= 2) {
                for (int start : new int[] {0, 1, 3, 4, 17, 127}) {
                    whole(count, eew, start);
                }
            }
        }
        StripMachine m = new StripMachine();
        m.setX(1, 56);
        m.setWord(14, 0x04030201);
        m.setWord(15, 0x08070605);
        m.shut(1, true);
        Check.due("vl2re32 that fails", m.step(Asm.fields(Asm.load(32, Asm.UNIT, 1, 8, 1, 2), 1)), 2);
        Check.due("VSTART", m.state(2), 2);
        Check.due("address", m.state(9), 64);
        Check.due("the second element", m.v(9), 0x08070605);
        m.setState(2, 0);
        m.setX(1, 53);
        Check.due("vs1r that fails", m.step(Asm.store(8, Asm.UNIT, 1, 8, 1, 2)), 2);
        Check.due("VSTART of it", m.state(2), 11);
        Check.due("its bytes 7 to 10", m.word(15), 0x08);
    }

    private static void whole(int count, int eew, int start) {
        StripMachine m = new StripMachine();
        m.choose(-1L);
        m.setX(1, 129);
        m.setX(2, 512);
        for (int k = 0; k < 4 * count + 1; k++) {
            m.setWord(32 + k, 0x01010101 * (k + 1));
        }
        m.setState(2, start);
        Check.due("vl" + count + "re" + eew, m.step(Asm.fields(Asm.load(eew, Asm.UNIT, 1, 8, 1, V), count - 1)), 0);
        for (int at = 0; at < 16 * count + 16; at++) {
            int got = (m.v(4 * V + at / 4) >>> (8 * (at % 4))) & 255;
            boolean came = at >= start * eew / 8 && at < 16 * count;
            Check.due("vl" + count + "re" + eew + " from " + start + " byte " + at, got, came ? (at + 1) / 4 + 1 : 0);
        }
        m.setState(2, start);
        Check.due("vs" + count + "r", m.step(Asm.fields(Asm.store(8, Asm.UNIT, 1, 8, 2, V), count - 1)), 0);
        for (int k = 0; k < 4 * count; k++) {
            int stored = 0;
            for (int b = 0; b < 4; b++) {
                stored |= 4 * k + b >= start ? m.v(4 * V + k) & (255 << (8 * b)) : 0;
            }
            Check.due("vs" + count + "r from " + start, m.word(128 + k), stored);
        }
        Check.due("VSTART 0", m.state(2), 0);
    }

    /** Which words are illegal. */
    private static void words() {
        StripMachine[] pool = new StripMachine[1];
        for (int width = 0; width < 8; width++) {
            boolean known = width == 0 || width >= 5 && width <= 6;
            for (int second = 0; second < 32; second++) {
                for (int nf = 0; nf < 8; nf++) {
                    for (int vm = 0; vm < 2; vm++) {
                        pool[0] = new StripMachine();
                        pool[0].step(Asm.vsetivli(0, 1, 18));
                        int load = Asm.fields(Asm.load(8, Asm.UNIT, vm, second, 1, V), nf) | width << 12;
                        boolean whole = second == 8 && vm == 1 && (nf == 0 || nf == 1 || nf == 3 || nf == 7);
                        boolean plain = nf == 0 && (second == 0 || second == 16);
                        boolean mask = nf == 0 && second == 11 && vm == 1 && width == 0;
                        String what = "width " + width + " second " + second + " nf " + nf + " vm " + vm;
                        Check.due("load " + what, pool[0].step(load), known && (whole || plain || mask) ? 0 : 1);
                        plain = nf == 0 && second == 0;
                        whole = whole && width == 0;
                        Check.due("store " + what, pool[0].step(load | 0x20), known && (whole || plain || mask) ? 0 : 1);
                        boolean strided = known && nf == 0;
                        Check.due("strided " + what, pool[0].step(load & ~(31 << 20) | 2 << 26), strided ? 0 : 1);
                        Check.due("indexed " + what, pool[0].step(load & ~(31 << 20) | 3 << 26), strided ? 0 : 1);
                        Check.due("mew " + what, pool[0].step(load | 1 << 28), 1);
                        Check.due("mew, strided " + what, pool[0].step(load | 1 << 28 | 2 << 26), 1);
                    }
                }
            }
        }
        for (int number = 0; number < 32; number++) {
            for (int count = 1; count <= 8; count *= 2) {
                StripMachine m = new StripMachine();
                int due = number % count == 0 ? 0 : 1;
                Check.due("whole to " + number, m.step(Asm.fields(Asm.load(16, Asm.UNIT, 1, 8, 1, number), count - 1)), due);
                Check.due("whole from " + number, m.step(Asm.fields(Asm.store(8, Asm.UNIT, 1, 8, 1, number), count - 1)), due);
            }
        }
    }
}
