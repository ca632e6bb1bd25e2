/** Promises 2 and 10: the edges of LOADS and STORES, of the MEMORY, its PAGES and TRAP, a sentence each. */
public final class MemoryEdgesTest {
    private static final int OLD = 0x55;

    private MemoryEdgesTest() {
    }

    public static void main(String[] args) {
        needNotBeMultiples();
        endOfTheMemory();
        aheadOfTheMemory();
        addressesGoRound();
        stridesGoRound();
        stridesOfAllSigns();
        indicesHaveNoSign();
        indicesGoRound();
        indicesOfTheirOwnWidth();
        everyPage();
        acrossAPage();
        notAskedFor();
        trapOfALoad();
        trapOfAStore();
        trapAtElementZero();
        trapWithMask();
        maskedOff();
        trapOfIndices();
        goesOnFromStart();
        latestTrap();
        firstOnly();
        firstOnlyAtZero();
        firstOnlyFromStart();
        firstOnlyMasked();
        firstOnlyWithoutFailing();
        maskBytes();
        maskBytesTail();
        maskBytesFromStart();
        maskBytesBeyondThem();
        maskBytesTrap();
        wholes();
        wholesFromStart();
        wholesTrap();
        lastElements();
        Check.end();
    }

    /** The bytes of the memory's first words count up: byte k holds k + 1. */
    private static void count(Bench t, int words) {
        for (int k = 0; k < words; k++) {
            t.word(k, 0x04030201 + 0x04040404 * k);
        }
    }

    private static void needNotBeMultiples() {
        Bench t = new Bench("Addresses need not be multiples", "e32, m1, tu, mu", 2);
        count(t, 4);
        for (int at = 0; at < 4; at++) {
            t.x(1, at);
            t.does("vle32.v v8, (x1)");
            t.row(8, 32, 0x04030201 + 0x01010101 * at, 0x08070605 + 0x01010101 * at, 0);
            t.does("vle16.v v9, (x1)");
            t.row(9, 16, 0x0201 + 0x0101 * at, 0x0403 + 0x0101 * at, 0);
        }
        t.put(8, 32, 0xA1A2A3A4, 0xB1B2B3B4);
        t.x(1, 1);
        t.does("vse32.v v8, (x1)");
        t.isWord(0, 0xA2A3A401);
        t.isWord(1, 0xB2B3B4A1);
        t.isWord(2, 0x0C0B0AB1);
        t.x(1, 15);
        t.does("vse16.v v8, (x1)");
        t.isWord(3, 0xA40F0E0D);
        t.isWord(4, 0x00A1A2A3);
    }

    private static void endOfTheMemory() {
        String sentence = "An element that has a byte beyond fails";
        for (int eew = 8; eew <= 32; eew *= 2) {
            for (int behind = 0; behind < 5; behind++) {
                int address = 1024 - eew / 8 + behind;
                Bench t = new Bench(sentence + ": " + eew + " at " + address, "e" + eew + ", m1, tu, mu", 1);
                t.word(255, 0x44332211);
                t.fill(8, 1, OLD);
                t.x(1, address);
                if (behind == 0) {
                    t.does("vle" + eew + ".v v8, (x1)");
                    t.row(8, eew, 0x44332211 >>> (32 - eew));
                    t.put(8, 32, -1);
                    t.does("vse" + eew + ".v v8, (x1)");
                    t.isWord(255, 0x44332211 | -1 << (32 - eew));
                } else {
                    t.traps("vle" + eew + ".v v8, (x1)", 0, address);
                    t.rowIs(8, 1, OLD);
                    t.traps("vse" + eew + ".v v8, (x1)", 0, address);
                    t.isWord(255, 0x44332211);
                    t.isWord(0, 0);
                }
            }
        }
    }

    private static void aheadOfTheMemory() {
        String sentence = "An element that has a byte beyond fails: ahead of address 0";
        for (int address : new int[] {-1, -2, -3, -4, -1024, Integer.MIN_VALUE, Integer.MAX_VALUE, Integer.MAX_VALUE - 2}) {
            for (int eew = 8; eew <= 32; eew *= 2) {
                Bench t = new Bench(sentence + ": " + eew + " at " + address, "e" + eew + ", m1, tu, mu", 1);
                t.x(1, address);
                t.put(8, 32, -1);
                t.traps("vle" + eew + ".v v8, (x1)", 0, address);
                t.row(8, 32, -1);
                t.traps("vse" + eew + ".v v8, (x1)", 0, address);
                t.isWord(0, 0);
                t.isWord(255, 0);
            }
        }
    }

    private static void addressesGoRound() {
        Bench t = new Bench("Addresses go round by 32 bits", "e32, m1, tu, mu", 4);
        count(t, 4);
        t.x(1, -8);
        t.traps("vle32.v v8, (x1)", 0, -8);
        t.set(Bench.VSTART, 1);
        t.traps("vle32.v v8, (x1)", 1, -4);
        t.set(Bench.VSTART, 2);
        t.does("vle32.v v8, (x1)");
        t.row(8, 32, 0, 0, 0x04030201, 0x08070605);
        t.set(Bench.VSTART, 3);
        t.does("vse32.v v9, (x1)");
        t.isWord(0, 0x04030201);
        t.isWord(1, 0);
        t.isWord(2, 0x0C0B0A09);
    }

    private static void stridesGoRound() {
        Bench t = new Bench("Addresses go round by 32 bits: strides", "e8, m1, tu, mu", 9);
        count(t, 4);
        t.put(0, 8, 0b00010001, 1);
        t.x(1, 5);
        t.x(2, 0x40000000);
        t.does("vlse8.v v8, (x1), x2, v0.t");
        t.row(8, 8, 6, 0, 0, 0, 6, 0, 0, 0, 6);
        t.traps("vlse8.v v8, (x1), x2", 1, 0x40000005);
        t.set(Bench.VSTART, 3);
        t.traps("vlse8.v v8, (x1), x2", 3, 0xC0000005);
        t.set(Bench.VSTART, 0);
        t.x(1, 1);
        t.x(2, -1);
        t.traps("vlse8.v v8, (x1), x2", 2, -1);
    }

    private static void stridesOfAllSigns() {
        Bench t = new Bench("vlse vsse (x[rs2] bytes from one to the next)", "e16, m1, tu, mu", 3);
        count(t, 4);
        t.x(1, 6);
        t.x(2, -3);
        t.does("vlse16.v v8, (x1), x2");
        t.row(8, 16, 0x0807, 0x0504, 0x0201, 0);
        t.does("vlse16.v v8, (x1), x0");
        t.row(8, 16, 0x0807, 0x0807, 0x0807, 0);
        t.x(2, 1);
        t.does("vlse16.v v8, (x1), x2");
        t.row(8, 16, 0x0807, 0x0908, 0x0A09, 0);
        t.x(2, 500);
        t.does("vlse16.v v8, (x1), x2");
        t.row(8, 16, 0x0807, 0, 0, 0);
        t.put(8, 16, 0xA1A2, 0xB1B2, 0xC1C2);
        t.x(2, 1);
        t.does("vsse16.v v8, (x1), x2");
        t.isWord(1, 0xB2A20605);
        t.isWord(2, 0x0C0BC1C2);
        t.does("vsse16.v v8, (x0), x0");
        t.isWord(0, 0x0403C1C2);
        t.x(2, 509);
        t.x(1, 5);
        t.traps("vsse16.v v8, (x1), x2", 2, 1023);
        t.isWord(128, 0xB1B20000);
    }

    private static void indicesHaveNoSign() {
        String sentence = "vluxei vloxei vsuxei vsoxei (the indices vs2, without sign)";
        Bench t = new Bench(sentence, "e8, m1, tu, mu", 2);
        count(t, 2);
        t.word(63, 0x99000000);
        t.word(64, 0x00AB);
        t.put(16, 8, 0xFF, 0x80);
        t.does("vluxei8.v v8, (x0), v16");
        t.row(8, 8, 0x99, 0, 0);
        t.x(1, 1);
        t.does("vloxei8.v v8, (x1), v16");
        t.row(8, 8, 0xAB, 0, 0);
        t.put(8, 8, 0x61, 0x62);
        t.does("vsuxei8.v v8, (x1), v16");
        t.isWord(64, 0x61);
        t.isWord(32, 0x6200);
        t.does("vsoxei8.v v8, (x0), v16");
        t.isWord(63, 0x61000000);
        t.put(16, 16, 0xFFFF);
        t.traps("vluxei16.v v8, (x0), v16", 0, 0xFFFF);
        t.put(16, 16, 0xFF80);
        t.traps("vloxei16.v v8, (x1), v16", 0, 0xFF81);
        t.traps("vsuxei16.v v8, (x1), v16", 0, 0xFF81);
    }

    private static void indicesGoRound() {
        Bench t = new Bench("Addresses go round by 32 bits: indices", "e8, m1, tu, mu", 3);
        count(t, 2);
        t.x(1, 3);
        t.put(16, 32, 0xFFFFFFFDL, 0xFFFFFFFFL, 1);
        t.does("vluxei32.v v8, (x1), v16");
        t.row(8, 8, 1, 3, 5, 0);
        t.x(1, -2);
        t.put(16, 8, 2, 5, 1);
        t.traps("vloxei8.v v8, (x1), v16", 2, -1);
        t.row(8, 8, 1, 4, 5, 0);
    }

    private static void indicesOfTheirOwnWidth() {
        Bench t = new Bench("EEW is that of the indices; data have SEW", "e32, m1, tu, mu", 3);
        count(t, 4);
        t.put(16, 8, 8, 1, 4);
        t.does("vluxei8.v v8, (x0), v16");
        t.row(8, 32, 0x0C0B0A09, 0x05040302, 0x08070605, 0);
        t.put(16, 16, 4, 0, 9);
        t.does("vloxei16.v v8, (x0), v16");
        t.row(8, 32, 0x08070605, 0x04030201, 0x0D0C0B0A, 0);
        t.x(1, 64);
        t.does("vsuxei16.v v8, (x1), v16");
        t.isWord(16, 0x04030201);
        t.isWord(17, 0x08070605);
        t.isWord(18, 0x0C0B0A00);
        t.isWord(19, 0x0D);
        t.put(16, 8, 0, 0, 0);
        t.does("vsoxei8.v v8, (x1), v16");
        t.isWord(16, 0x0D0C0B0A);
    }

    private static void everyPage() {
        String sentence = "PAGES of 64, which may be SHUT";
        for (int page = 0; page < 16; page++) {
            Bench t = new Bench(sentence + ": " + page, "e8, m1, tu, mu", 1);
            t.shut(page, true);
            for (int at : new int[] {64 * page, 64 * page + 63}) {
                t.x(1, at);
                t.traps("vle8.v v8, (x1)", 0, at);
                t.traps("vse8.v v8, (x1)", 0, at);
            }
            for (int at : new int[] {64 * page - 1, 64 * page + 64}) {
                if (at >= 0 && at < 1024) {
                    t.x(1, at);
                    t.does("vle8.v v8, (x1)");
                    t.does("vse8.v v8, (x1)");
                }
            }
            t.shut(page, true);
            t.shut(page, false);
            t.x(1, 64 * page);
            t.does("vle8.v v8, (x1)");
            t.is(Bench.TRAPS, 4);
        }
    }

    private static void acrossAPage() {
        String sentence = "An element that has a byte in a PAGE that is SHUT fails";
        for (int address = 59; address < 66; address++) {
            Bench t = new Bench(sentence + ": behind it, " + address, "e32, m1, tu, mu", 1);
            t.shut(1, true);
            inOut(t, address, address > 60);
        }
        for (int address = 59; address < 66; address++) {
            Bench t = new Bench(sentence + ": ahead of it, " + address, "e32, m1, tu, mu", 1);
            t.shut(0, true);
            inOut(t, address, address < 64);
        }
        Bench both = new Bench(sentence + ": neither", "e32, m1, tu, mu", 1);
        both.shut(2, true);
        inOut(both, 62, false);
    }

    private static void inOut(Bench t, int address, boolean fails) {
        t.x(1, address);
        t.put(8, 32, -1);
        if (fails) {
            t.traps("vse32.v v8, (x1)", 0, address);
            t.isWord(15, 0);
            t.isWord(16, 0);
            t.traps("vle32.v v8, (x1)", 0, address);
            t.row(8, 32, -1);
        } else {
            t.does("vse32.v v8, (x1)");
            t.does("vle32.v v9, (x1)");
            t.row(9, 32, -1);
        }
    }

    private static void notAskedFor() {
        Bench masked = new Bench("An element (not masked off) ..: masked off ones do not fail", "e32, m1, tu, mu", 4);
        count(masked, 2);
        masked.shut(1, true);
        masked.x(1, 60);
        masked.put(0, 8, 0b0001);
        masked.put(8, 32, 7, 7, 7, 7);
        masked.does("vse32.v v8, (x1), v0.t");
        masked.isWord(15, 7);
        masked.isWord(16, 0);
        masked.does("vle32.v v9, (x1), v0.t");
        masked.row(9, 32, 7, 0, 0, 0);
        masked.put(0, 8, 0);
        masked.x(1, 9999);
        masked.does("vle32.v v9, (x1), v0.t");
        masked.does("vle32ff.v v9, (x1), v0.t");
        masked.is(Bench.VL, 4);
        Bench length = new Bench("TRAP: what stands behind VL does not fail", "e32, m1, ta, mu", 1);
        length.shut(1, true);
        length.x(1, 60);
        length.does("vle32.v v9, (x1)");
        length.does("vse32.v v9, (x1)");
        Bench start = new Bench("TRAP: what stands ahead of VSTART does not fail", "e32, m1, tu, mu", 2);
        start.shut(0, true);
        start.x(1, 60);
        start.set(Bench.VSTART, 1);
        start.does("vle32.v v9, (x1)");
        start.set(Bench.VSTART, 1);
        start.does("vse32.v v9, (x1)");
    }

    private static void trapOfALoad() {
        Bench t = new Bench("TRAP: VSTART is its number, those ahead of it are done (VL and TAIL stay)", "e32, m2, ta, ma", 6);
        t.choose(-1);
        t.word(14, 21);
        t.word(15, 22);
        t.word(16, 23);
        t.shut(1, true);
        t.put(8, 32, 1, 2, 3, 4, 5, 6, 7, 8);
        t.x(1, 56);
        t.traps("vle32.v v8, (x1)", 2, 64);
        t.row(8, 32, 21, 22, 3, 4, 5, 6, 7, 8);
        t.is(Bench.VL, 6);
        t.is(Bench.TRAPS, 1);
        t.is(Bench.DONE, 1);
        t.is(Bench.ILLEGAL, 0);
        t.is(Bench.VTYPE, 0xD1);
    }

    private static void trapOfAStore() {
        Bench t = new Bench("TRAP: those ahead of it are done: of a store", "e16, m1, ta, ma", 8);
        t.choose(-1);
        t.shut(1, true);
        t.put(8, 16, 1, 2, 3, 4, 5, 6, 7, 8);
        t.x(1, 61);
        t.traps("vse16.v v8, (x1)", 1, 63);
        t.isWord(15, 0x00000100);
        t.isWord(16, 0);
        t.row(8, 16, 1, 2, 3, 4, 5, 6, 7, 8);
        t.is(Bench.VL, 8);
        t.shut(1, false);
        t.word(15, 0);
        t.does("vse16.v v8, (x1)");
        t.isWord(15, 0x02000000);
        t.isWord(16, 0x04000300);
        t.isWord(18, 0x08000700);
        t.isWord(19, 0);
        t.is(Bench.VSTART, 0);
    }

    private static void trapAtElementZero() {
        Bench t = new Bench("TRAP at element 0: VSTART is 0", "e16, m1, ta, ma", 8);
        t.choose(-1);
        t.fill(8, 1, OLD);
        t.x(1, 1024);
        t.traps("vle16.v v8, (x1)", 0, 1024);
        t.rowIs(8, 1, OLD);
        t.is(Bench.TRAPS, 1);
    }

    private static void trapWithMask() {
        Bench t = new Bench("TRAP: those ahead of it are done, masked off ones, too", "e32, m1, tu, ma", 4);
        t.choose(-1);
        t.shut(1, true);
        t.word(15, 9);
        t.put(0, 8, 0b1001);
        t.put(8, 32, 1, 2, 3, 4);
        t.x(1, 60);
        t.traps("vle32.v v8, (x1), v0.t", 3, 72);
        t.row(8, 32, 9, -1, -1, 4);
    }

    private static void maskedOff() {
        for (String text : new String[] {"vle16.v v8, (x0), v0.t", "vlse16.v v8, (x0), x2, v0.t", "vluxei16.v v8, (x0), v16, v0.t",
            "vle16ff.v v8, (x0), v0.t"}) {
            for (String policy : new String[] {"mu", "ma"}) {
                Bench t = new Bench("Elements that are masked off, of a load: " + text, "e16, m1, tu, " + policy, 4);
                t.choose(~0b0100);
                count(t, 2);
                t.x(2, 2);
                t.fill(8, 1, OLD);
                t.put(16, 16, 0, 2, 4, 6);
                t.put(0, 8, 0b0010);
                t.does(text);
                int open = policy.equals("ma") ? -1 : 0x5555;
                t.row(8, 16, open, 0x0403, 0x5555, open, 0x5555);
            }
        }
        for (String text : new String[] {"vse16.v v8, (x0), v0.t", "vsse16.v v8, (x0), x2, v0.t", "vsuxei16.v v8, (x0), v16, v0.t"}) {
            Bench t = new Bench("Elements that are masked off, of a store: no register changes: " + text, "e16, m1, ta, ma", 4);
            t.choose(-1);
            t.x(2, 2);
            t.word(1, 0x01010101);
            t.fill(8, 1, OLD);
            t.put(16, 16, 0, 2, 4, 6);
            t.put(0, 8, 0b0010);
            t.does(text);
            t.rowIs(8, 1, OLD);
            t.isWord(0, 0x55550000);
            t.isWord(1, 0x01010101);
        }
    }

    private static void trapOfIndices() {
        Bench t = new Bench("TRAP: VSTART is its number, whatever way it goes", "e8, m1, tu, mu", 4);
        count(t, 2);
        t.shut(3, true);
        t.put(16, 8, 1, 5, 192, 0);
        t.traps("vluxei8.v v8, (x0), v16", 2, 192);
        t.row(8, 8, 2, 6, 0, 0);
        t.set(Bench.VSTART, 0);
        t.put(8, 8, 0x41, 0x42, 0x43, 0x44);
        t.traps("vsoxei8.v v8, (x0), v16", 2, 192);
        t.isWord(0, 0x04034101);
        t.isWord(1, 0x08074205);
        t.set(Bench.VSTART, 0);
        t.x(2, 96);
        t.traps("vlse8.v v8, (x0), x2", 2, 192);
    }

    private static void goesOnFromStart() {
        Bench t = new Bench("TRAP, then once more: elements ahead of VSTART stay", "e32, m1, ta, mu", 3);
        t.choose(-1);
        t.word(15, 1);
        t.word(16, 2);
        t.word(17, 3);
        t.shut(1, true);
        t.x(1, 60);
        t.traps("vle32.v v8, (x1)", 1, 64);
        t.traps("vle32.v v8, (x1)", 1, 64);
        t.is(Bench.TRAPS, 2);
        t.shut(1, false);
        t.word(15, 77);
        t.does("vle32.v v8, (x1)");
        t.row(8, 32, 1, 2, 3, -1);
        t.is(Bench.VSTART, 0);
    }

    private static void latestTrap() {
        Bench t = new Bench("state: 9 the address of the latest TRAP's element", "e32, m1, tu, mu", 2);
        t.is(Bench.TRAP_ADDRESS, 0);
        t.x(1, 1018);
        t.traps("vle32.v v8, (x1)", 1, 1022);
        t.set(Bench.VSTART, 0);
        t.x(1, -3);
        t.traps("vle32.v v8, (x1)", 0, -3);
        t.does("vle32.v v8, (x0)");
        t.is(Bench.TRAP_ADDRESS, -3);
        t.refuses("vle64.v v8, (x0)");
        t.is(Bench.TRAP_ADDRESS, -3);
        t.x(1, 1020);
        t.does("vle32ff.v v8, (x1)");
        t.is(Bench.TRAP_ADDRESS, -3);
        t.is(Bench.TRAPS, 2);
    }

    private static void firstOnly() {
        for (String policy : new String[] {"tu", "ta"}) {
            Bench t = new Bench("vle..ff, if it is not element 0: VL is its number, no TRAP; TAIL by this VL", "e16, m1, mu, " + policy, 6);
            t.choose(0b01001000);
            t.fill(8, 2, OLD);
            t.word(15, 0x00020001);
            t.shut(1, true);
            t.x(1, 60);
            t.does("vle16ff.v v8, (x1)");
            t.is(Bench.VL, 2);
            t.is(Bench.VSTART, 0);
            t.is(Bench.TRAPS, 0);
            t.is(Bench.DONE, 2);
            t.is(Bench.TRAP_ADDRESS, 0);
            int open = policy.equals("ta") ? -1 : 0x5555;
            t.row(8, 16, 1, 2, 0x5555, open, 0x5555, 0x5555, open, 0x5555);
            t.rowIs(9, 1, OLD);
        }
        Bench last = new Bench("vle..ff: the last fails", "e8, m1, tu, mu", 16);
        last.x(1, 1009);
        last.does("vle8ff.v v8, (x1)");
        last.is(Bench.VL, 15);
        Bench second = new Bench("vle..ff: element 1 fails", "e32, m1, tu, mu", 4);
        second.x(1, 1020);
        second.does("vle32ff.v v8, (x1)");
        second.is(Bench.VL, 1);
    }

    private static void firstOnlyAtZero() {
        Bench t = new Bench("vle..ff, element 0: TRAP", "e16, m1, ta, mu", 6);
        t.choose(-1);
        t.fill(8, 1, OLD);
        t.shut(0, true);
        t.traps("vle16ff.v v8, (x0)", 0, 0);
        t.is(Bench.VL, 6);
        t.is(Bench.TRAPS, 1);
        t.rowIs(8, 1, OLD);
        t.x(1, 63);
        t.traps("vle16ff.v v8, (x1)", 0, 63);
    }

    private static void firstOnlyFromStart() {
        Bench t = new Bench("vle..ff from VSTART on: it is not element 0", "e16, m1, ta, mu", 6);
        t.choose(~0b00010000);
        t.fill(8, 1, OLD);
        t.shut(0, true);
        t.set(Bench.VSTART, 3);
        t.does("vle16ff.v v8, (x0)");
        t.is(Bench.VL, 3);
        t.is(Bench.VSTART, 0);
        t.is(Bench.TRAPS, 0);
        t.row(8, 16, 0x5555, 0x5555, 0x5555, -1, 0x5555, -1, -1, -1);
    }

    private static void firstOnlyMasked() {
        Bench t = new Bench("vle..ff: element 0 is masked off and does not fail", "e32, m1, tu, ma", 4);
        t.choose(-1);
        t.shut(1, true);
        t.put(0, 8, 0b0100);
        t.put(8, 32, 1, 2, 3, 4);
        t.x(1, 64);
        t.does("vle32ff.v v8, (x1), v0.t");
        t.is(Bench.VL, 2);
        t.row(8, 32, -1, -1, 3, 4);
    }

    private static void firstOnlyWithoutFailing() {
        Bench t = new Bench("vle..ff: none fails", "e16, m1, ta, mu", 6);
        t.choose(-1);
        count(t, 4);
        t.does("vle16ff.v v8, (x0)");
        t.is(Bench.VL, 6);
        t.row(8, 16, 0x0201, 0x0403, 0x0605, 0x0807, 0x0A09, 0x0C0B, -1, -1);
    }

    private static void maskBytes() {
        String sentence = "vlm vsm (of the first (VL + 7) / 8 bytes)";
        int[][] rows = {{1, 1}, {7, 1}, {8, 1}, {9, 2}, {16, 2}, {17, 3}, {120, 15}, {121, 16}, {127, 16}, {128, 16}};
        for (int[] row : rows) {
            Bench t = new Bench(sentence + ": VL " + row[0], "e8, m8, ta, ma", row[0]);
            count(t, 5);
            t.fill(9, 1, 0xFF);
            t.does("vlm.v v9, (x0)");
            for (int i = 0; i < 16; i++) {
                t.rowIs(9, 8, i, i + 1, i < row[1] ? i + 1 : 0xFF);
            }
            t.x(1, 64);
            t.fill(9, 2, 0xEE);
            t.does("vsm.v v9, (x1)");
            for (int k = 0; k < 5; k++) {
                int kept = Math.max(0, Math.min(4, row[1] - 4 * k));
                t.isWord(16 + k, kept == 4 ? 0xEEEEEEEE : 0xEEEEEEEE & (1 << 8 * kept) - 1);
            }
        }
    }

    private static void maskBytesTail() {
        for (String policy : new String[] {"tu", "ta"}) {
            Bench t = new Bench("vlm (EEW 8, EMUL 1, TAIL left open)", "e32, mu, m8, " + policy, 9);
            t.choose(~0b0111111111101000L);
            t.fill(8, 3, OLD);
            t.does("vlm.v v9, (x0)");
            t.row(9, 8, 0, 0, 0xFF, OLD, 0xFF, OLD, OLD, OLD, OLD, OLD, OLD, OLD, OLD, OLD, OLD, 0xFF);
            t.rowIs(8, 1, OLD);
            t.rowIs(10, 1, OLD);
        }
    }

    private static void maskBytesFromStart() {
        Bench t = new Bench("vlm vsm: elements ahead of VSTART, bytes here, stay", "e8, m8, tu, mu", 30);
        count(t, 4);
        t.fill(9, 1, OLD);
        t.set(Bench.VSTART, 3);
        t.does("vlm.v v9, (x0)");
        t.row(9, 8, OLD, OLD, OLD, 4, OLD);
        t.is(Bench.VSTART, 0);
        t.set(Bench.VSTART, 3);
        t.x(1, 64);
        t.does("vsm.v v9, (x1)");
        t.isWord(16, 0x04000000);
        t.isWord(17, 0);
    }

    private static void maskBytesBeyondThem() {
        Bench t = new Bench("vlm vsm: VSTART not below the number of their bytes, though below VL", "e8, m8, ta, ma", 30);
        t.choose(-1);
        count(t, 4);
        for (int start : new int[] {4, 5, 29}) {
            t.fill(9, 1, OLD);
            t.set(Bench.VSTART, start);
            t.does("vlm.v v9, (x0)");
            t.rowIs(9, 1, OLD);
            t.is(Bench.VSTART, 0);
            t.set(Bench.VSTART, start);
            t.x(1, 2000);
            t.does("vsm.v v9, (x1)");
            t.is(Bench.VSTART, 0);
        }
    }

    private static void maskBytesTrap() {
        Bench t = new Bench("vlm vsm: TRAP, VSTART is its number, bytes here", "e8, m8, ta, mu", 30);
        t.choose(-1);
        t.word(15, 0x04030201);
        t.fill(9, 1, OLD);
        t.shut(1, true);
        t.x(1, 62);
        t.traps("vlm.v v9, (x1)", 2, 64);
        t.row(9, 8, 3, 4, OLD, OLD, OLD);
        t.is(Bench.VL, 30);
        t.set(Bench.VSTART, 0);
        t.traps("vsm.v v8, (x1)", 2, 64);
        t.isWord(15, 0x00000201);
        Bench bytes = new Bench("vlm vsm: no byte behind these fails", "e8, m8, tu, mu", 16);
        bytes.shut(1, true);
        bytes.x(1, 62);
        bytes.does("vlm.v v9, (x1)");
        bytes.does("vsm.v v9, (x1)");
    }

    private static void wholes() {
        for (int count = 1; count <= 8; count *= 2) {
            for (int eew = 8; eew <= 32; eew *= 2) {
                Bench t = new Bench("vl1re .. vl8re, vs1r .. vs8r: as VL were all of them: " + count + ", " + eew, "e8, m1, ta, ma", 0);
                t.choose(-1);
                t.fill(7, 10, OLD);
                for (int k = 0; k < 4 * count + 1; k++) {
                    t.word(k, 0x01010101 * (k + 1));
                }
                t.does("vl" + count + "re" + eew + ".v v8, (x0)");
                t.rowIs(7, 1, OLD);
                for (int k = 0; k < 4 * count; k++) {
                    t.rowIs(8, 32, k, k + 1, 0x01010101 * (k + 1));
                }
                t.rowIs(8 + count, 1, OLD);
                t.x(1, 512);
                t.does("vs" + count + "r.v v8, (x1)");
                for (int k = 0; k < 4 * count; k++) {
                    t.isWord(128 + k, 0x01010101 * (k + 1));
                }
                t.isWord(127, 0);
                t.isWord(128 + 4 * count, 0);
                t.is(Bench.VL, 0);
            }
        }
    }

    private static void wholesFromStart() {
        String sentence = "vl1re .. vl8re, vs1r .. vs8r: elements of EEW from VSTART on";
        // EEW, how many registers, VSTART, the first byte that is loaded, the first one that is stored
        int[][] rows = {
            {8, 1, 15, 15, 15}, {8, 1, 16, 16, 16}, {32, 1, 3, 12, 3}, {32, 1, 4, 16, 4}, {32, 2, 7, 28, 7}, {32, 2, 8, 32, 8},
            {16, 4, 31, 62, 31}, {16, 4, 32, 64, 32}, {32, 1, 127, 16, 16}, {8, 8, 127, 127, 127},
        };
        for (int[] row : rows) {
            int bytes = 16 * row[1];
            Bench t = new Bench(sentence + ": " + row[0] + ", " + row[1] + ", " + row[2]);
            t.fill(8, row[1], OLD);
            t.set(Bench.VSTART, row[2]);
            t.does("vl" + row[1] + "re" + row[0] + ".v v8, (x0)");
            t.rowIs(8, 8, 0, row[3], OLD);
            t.rowIs(8, 8, row[3], bytes, 0);
            t.is(Bench.VSTART, 0);
            t.fill(8, row[1], 0xFF);
            t.set(Bench.VSTART, row[2]);
            t.does("vs" + row[1] + "r.v v8, (x0)");
            for (int k = 0; k < bytes / 4; k++) {
                int left = Math.max(0, Math.min(4, row[4] - 4 * k));
                t.isWord(k, left == 4 ? 0 : -1 << 8 * left);
            }
            t.is(Bench.VSTART, 0);
        }
        Bench behind = new Bench(sentence + ": VSTART at the end, and no address fails");
        behind.x(1, 5000);
        behind.set(Bench.VSTART, 16);
        behind.does("vl1re8.v v8, (x1)");
        behind.set(Bench.VSTART, 16);
        behind.does("vs1r.v v8, (x1)");
        behind.set(Bench.VSTART, 8);
        behind.does("vl1re16.v v8, (x1)");
        behind.set(Bench.VSTART, 7);
        behind.traps("vl1re16.v v8, (x1)", 7, 5014);
    }

    private static void wholesTrap() {
        Bench t = new Bench("vl1re .. vl8re, vs1r .. vs8r: TRAP");
        t.fill(8, 2, OLD);
        t.word(15, 0x04030201);
        t.shut(1, true);
        t.x(1, 60);
        t.traps("vl2re16.v v8, (x1)", 2, 64);
        t.row(8, 32, 0x04030201, 0x55555555);
        t.is(Bench.VL, 0);
        t.is(Bench.TRAPS, 1);
        t.set(Bench.VSTART, 0);
        t.x(1, 61);
        t.traps("vl1re32.v v9, (x1)", 0, 61);
        t.rowIs(9, 1, OLD);
        t.traps("vs1r.v v8, (x1)", 3, 64);
        t.isWord(15, 0x03020101);
        t.isWord(16, 0);
    }

    private static void lastElements() {
        Bench t = new Bench("The most elements that there are: 128", "e8, m8, tu, mu", 128);
        t.x(1, 896);
        t.word(255, 0x04030201);
        t.does("vle8.v v8, (x1)");
        t.rowIs(15, 8, 15, 16, 4);
        t.x(1, 897);
        t.traps("vle8.v v8, (x1)", 127, 1024);
        t.rowIs(15, 8, 14, 15, 4);
        t.does("vle8ff.v v8, (x1)");
        t.is(Bench.VL, 127);
    }
}
