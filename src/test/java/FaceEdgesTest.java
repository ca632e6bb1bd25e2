/** Promises 1 to 13: the edges of the calls themselves, a sentence each. */
public final class FaceEdgesTest {
    private static final int[] FAR = {-1, -2, Integer.MIN_VALUE, Integer.MIN_VALUE + 1, Integer.MAX_VALUE, 1 << 16, -(1 << 16)};

    private FaceEdgesTest() {
    }

    public static void main(String[] args) {
        newHasNoChoices();
        newHasNoPageShut();
        newIsApart();
        answersOfStep();
        xAtItsEnds();
        xZero();
        vAtItsEnds();
        vLowestFirst();
        wordAtItsEnds();
        wordLowestFirst();
        wordOfAShutPage();
        shutAtItsEnds();
        refusedCallsChangeNothing();
        statesByNumber();
        statesOfNothing();
        lowestBits();
        notToBeSet();
        sumInOrder();
        sumGoesRound();
        sumOfOnes();
        lastCall();
        Check.end();
    }

    private static void newHasNoChoices() {
        Bench t = new Bench("A new object: CHOICES 0");
        t.x(5, 24);
        t.does("vsetvli x1, x5, e8, m1, ta, ma");
        t.isX(1, 12);
        t.does("vmv.v.i v8, 3");
        t.rowIs(8, 8, 0, 12, 3);
        t.rowIs(8, 8, 12, 16, 0);
    }

    private static void newHasNoPageShut() {
        Bench t = new Bench("A new object: no PAGE SHUT");
        for (int page = 0; page < 16; page++) {
            t.x(1, 64 * page);
            t.does("vl4re8.v v8, (x1)");
            t.does("vs4r.v v8, (x1)");
        }
        t.is(Bench.TRAPS, 0);
    }

    private static void newIsApart() {
        Bench used = new Bench("A new object: whatever others are", "e8, m1, ta, ma", 3);
        used.choose(-1);
        used.shut(0, true);
        used.set(Bench.VXRM, 3);
        used.set(Bench.VXSAT, 1);
        used.traps("vle8.v v8, (x0)", 0, 0);
        used.fill(8, 1, 3);
        used.word(1, 3);
        Bench t = new Bench("A new object: whatever others are");
        for (int what = 0; what < 10; what++) {
            t.is(what, what == 1 ? Integer.MIN_VALUE : 0);
        }
        t.due("sum()", t.machine().sum(), 0);
        t.isWord(1, 0);
        t.does("vl1re8.v v8, (x0)");
    }

    private static void answersOfStep() {
        Bench t = new Bench("step: done: 0; 1 it is ILLEGAL; 2 TRAP");
        t.due("ILLEGAL", t.step(Words.of("vadd.vi v8, v8, 1")), 1);
        t.due("done", t.step(Words.of("vsetvli x1, x0, e8, m1")), 0);
        t.x(1, 1024);
        t.due("TRAP", t.step(Words.of("vle8.v v8, (x1)")), 2);
        t.due("done", t.step(Words.of("vadd.vi v8, v8, 1")), 0);
        t.due("done with nothing to do", t.step(Words.of("vsetivli x0, 0, e8, m1")), 0);
        t.due("done with nothing to do", t.step(Words.of("vadd.vi v8, v8, 1")), 0);
        t.is(Bench.DONE, 4);
        t.is(Bench.ILLEGAL, 1);
        t.is(Bench.TRAPS, 1);
    }

    private static void xAtItsEnds() {
        StripMachine m = new StripMachine();
        m.setX(31, -5);
        m.setX(1, Integer.MIN_VALUE);
        Check.due("x: the last, 31", m.x(31), -5);
        Check.due("x: the first that may be other than 0", m.x(1), Integer.MIN_VALUE);
        Check.due("x: the others stay", m.x(30), 0);
        Check.due("x(32): IndexOutOfBoundsException", thrown(m, "x", 32), true);
        Check.due("setX(32): IndexOutOfBoundsException likewise", thrown(m, "setX", 32), true);
        beyond(m, "x");
        beyond(m, "setX");
    }

    private static void xZero() {
        Bench t = new Bench("setX: x0 stays 0", "e32, m1, tu, mu", 1);
        t.x(0, 5);
        t.isX(0, 0);
        t.put(8, 32, 7);
        t.does("vmv.x.s x0, v8");
        t.isX(0, 0);
        t.does("vadd.vx v9, v8, x0");
        t.row(9, 32, 7);
    }

    private static void vAtItsEnds() {
        StripMachine m = new StripMachine();
        m.setV(0, -5);
        m.setV(127, Integer.MIN_VALUE);
        Check.due("v: the first, 0", m.v(0), -5);
        Check.due("v: the last, 127", m.v(127), Integer.MIN_VALUE);
        Check.due("v: the others stay", m.v(1), 0);
        Check.due("v: the others stay", m.v(126), 0);
        Check.due("v(128): IndexOutOfBoundsException", thrown(m, "v", 128), true);
        Check.due("setV(128): IndexOutOfBoundsException likewise", thrown(m, "setV", 128), true);
        beyond(m, "v");
        beyond(m, "setV");
    }

    private static void vLowestFirst() {
        Bench t = new Bench("v: bytes 4 k .. 4 k + 3 of all v registers in a row, the lowest first", "e8, m1, tu, mu", 16);
        t.does("vid.v v31");
        t.due("v(124)", t.machine().v(124), 0x03020100);
        t.due("v(127)", t.machine().v(127), 0x0F0E0D0C);
        t.machine().setV(127, 0x81828384);
        t.does("vslidedown.vi v1, v31, 12");
        t.row(1, 8, 0x84, 0x83, 0x82, 0x81, 0);
        t.due("v(4)", t.machine().v(4), 0x81828384);
    }

    private static void wordAtItsEnds() {
        StripMachine m = new StripMachine();
        m.setWord(0, -5);
        m.setWord(255, Integer.MIN_VALUE);
        Check.due("word: the first, 0", m.word(0), -5);
        Check.due("word: the last, 255", m.word(255), Integer.MIN_VALUE);
        Check.due("word: the others stay", m.word(1), 0);
        Check.due("word: the others stay", m.word(254), 0);
        Check.due("word(256): IndexOutOfBoundsException", thrown(m, "word", 256), true);
        Check.due("setWord(256): IndexOutOfBoundsException likewise", thrown(m, "setWord", 256), true);
        beyond(m, "word");
        beyond(m, "setWord");
    }

    private static void wordLowestFirst() {
        Bench t = new Bench("word: bytes 4 k .. 4 k + 3 of the MEMORY", "e8, m1, tu, mu", 4);
        t.word(255, 0x81828384);
        t.x(1, 1020);
        t.does("vle8.v v8, (x1)");
        t.row(8, 8, 0x84, 0x83, 0x82, 0x81);
        t.does("vse8.v v8, (x0)");
        t.isWord(0, 0x81828384);
    }

    private static void wordOfAShutPage() {
        Bench t = new Bench("word, setWord: they throw for k alone, not for a PAGE that is SHUT");
        for (int page = 0; page < 16; page++) {
            t.shut(page, true);
            t.word(16 * page + 15, page + 1);
            t.isWord(16 * page + 15, page + 1);
        }
    }

    private static void shutAtItsEnds() {
        StripMachine m = new StripMachine();
        m.shut(0, true);
        m.shut(15, true);
        Check.due("shut: the first, 0", m.step(Words.of("vl1re8.v v8, (x0)")), 2);
        m.setX(1, 960);
        Check.due("shut: the last, 15", m.step(Words.of("vl1re8.v v8, (x1)")), 2);
        m.shut(0, false);
        Check.due("shut: or not", m.step(Words.of("vl1re8.v v8, (x0)")), 0);
        Check.due("shut: the other stays", m.step(Words.of("vl1re8.v v8, (x1)")), 2);
        Check.due("shut(16): IndexOutOfBoundsException", thrown(m, "shut", 16), true);
        beyond(m, "shut");
        Check.due("shut(16, false): IndexOutOfBoundsException", thrown(m, "open", 16), true);
        beyond(m, "open");
        // Numbers that would be 0 or 15, were 4 or 5 bits of them looked at.
        for (int page : new int[] {16, 31, 32, 47, -16, 1 << 30}) {
            StripMachine other = new StripMachine();
            Check.due("shut(" + page + "): IndexOutOfBoundsException", thrown(other, "shut", page), true);
            other.setX(1, 960);
            Check.due("shut(" + page + ") shuts nothing", other.step(Words.of("vl1re8.v v8, (x0)")), 0);
            Check.due("shut(" + page + ") shuts nothing", other.step(Words.of("vl4re8.v v8, (x1)")), 0);
        }
    }

    private static void refusedCallsChangeNothing() {
        StripMachine m = new StripMachine();
        m.setX(31, 7);
        m.setV(127, 7);
        m.setV(0, 8);
        m.setWord(0, 8);
        m.setWord(255, 9);
        int sum = m.sum();
        for (int far : FAR) {
            thrown(m, "setX", far);
            thrown(m, "setV", far);
            thrown(m, "setWord", far);
        }
        thrown(m, "setX", 32);
        thrown(m, "setV", 128);
        thrown(m, "setWord", 256);
        Check.due("a refused setX", m.x(31), 7);
        Check.due("a refused setX", m.x(0), 0);
        Check.due("a refused setV", m.sum(), sum);
        Check.due("a refused setWord", m.word(0), 8);
        Check.due("a refused setWord", m.word(255), 9);
        for (int what = 0; what < 10; what++) {
            Check.due("refused calls: state(" + what + ")", m.state(what), what == 1 ? Integer.MIN_VALUE : 0);
        }
    }

    private static void statesByNumber() {
        Bench t = new Bench("state: 0 VL, 1 VTYPE, 2 VSTART, 3 VXRM, 4 VXSAT, 5 VLMAX, 6, 7, 8, 9");
        t.is(Bench.VLMAX, 0);
        t.type("e16, m4, ta, mu", 11);
        t.does("vadd.vi v8, v8, 1");
        t.refuses("vadd.vi v9, v8, 1");
        t.x(1, 1018);
        t.traps("vle16.v v8, (x1)", 3, 1024);
        t.set(Bench.VXRM, 2);
        t.set(Bench.VXSAT, 1);
        int[] due = {11, 0x4A, 3, 2, 1, 32, 2, 1, 1, 1024};
        for (int what = 0; what < due.length; what++) {
            t.is(what, due[what]);
        }
        Bench ill = new Bench("state: 5 VLMAX (0 if VILL)", "e16, m4, ta, mu", 11);
        ill.does("vsetvli x0, x0, e8, m1");
        ill.is(Bench.VLMAX, 0);
    }

    private static void statesOfNothing() {
        Bench t = new Bench("state: NONE for others", "e8, m1, tu, mu", 3);
        t.is(10, StripMachine.NONE);
        for (int what : FAR) {
            t.is(what, StripMachine.NONE);
        }
        t.is(100, StripMachine.NONE);
    }

    private static void lowestBits() {
        Bench start = new Bench("setState: VSTART (its lowest 7 bits)");
        int[][] ofStart = {{127, 127}, {128, 0}, {129, 1}, {255, 127}, {-1, 127}, {-128, 0}, {Integer.MIN_VALUE, 0}, {Integer.MAX_VALUE, 127}};
        for (int[] one : ofStart) {
            start.set(Bench.VSTART, one[0]);
            start.is(Bench.VSTART, one[1]);
        }
        Bench rounding = new Bench("setState: VXRM (its lowest 2)");
        for (int[] one : new int[][] {{3, 3}, {4, 0}, {7, 3}, {-1, 3}, {-4, 0}, {Integer.MIN_VALUE, 0}, {6, 2}}) {
            rounding.set(Bench.VXRM, one[0]);
            rounding.is(Bench.VXRM, one[1]);
        }
        Bench saturated = new Bench("setState: VXSAT (its lowest bit)");
        for (int[] one : new int[][] {{1, 1}, {2, 0}, {3, 1}, {-1, 1}, {-2, 0}, {Integer.MIN_VALUE, 0}, {Integer.MAX_VALUE, 1}}) {
            saturated.set(Bench.VXSAT, one[0]);
            saturated.is(Bench.VXSAT, one[1]);
        }
        Bench apart = new Bench("setState: by what 2, 3, 4");
        apart.set(2, -1);
        apart.set(3, -1);
        apart.set(4, -1);
        apart.set(3, 0);
        apart.is(2, 127);
        apart.is(4, 1);
        apart.set(2, 0);
        apart.is(3, 0);
        apart.is(4, 1);
    }

    private static void notToBeSet() {
        Bench t = new Bench("setState: false for others", "e8, m2, tu, mu", 3);
        t.x(1, 2000);
        t.traps("vle8.v v8, (x1)", 0, 2000);
        t.refuses("vadd.vi v9, v8, 1");
        int[] before = new int[10];
        for (int what = 0; what < 10; what++) {
            before[what] = t.machine().state(what);
        }
        for (int what : new int[] {0, 1, 5, 6, 7, 8, 9, 10, 11, 34, 66, 130, 258}) {
            t.due("setState(" + what + ")", t.machine().setState(what, 1) ? 1 : 0, 0);
        }
        for (int what : FAR) {
            t.due("setState(" + what + ")", t.machine().setState(what, 1) ? 1 : 0, 0);
        }
        for (int what = 0; what < 10; what++) {
            t.is(what, before[what]);
        }
    }

    private static void sumInOrder() {
        StripMachine m = new StripMachine();
        m.setV(127, 3);
        Check.due("sum: the last one as it is", m.sum(), 3);
        m.setV(125, 2);
        Check.due("sum: 31 times that, in order", m.sum(), 2 * 31 * 31 + 3);
    }

    private static void sumGoesRound() {
        StripMachine m = new StripMachine();
        m.setV(0, 1);
        int due = 1;
        for (int k = 1; k < 128; k++) {
            due *= 31;
        }
        Check.due("sum: of the first one, 127 times 31 times that, going round", m.sum(), due);
        m.setV(0, 0);
        m.setV(126, Integer.MAX_VALUE);
        m.setV(127, -1);
        Check.due("sum: 32 bits, going round", m.sum(), (int) (31L * Integer.MAX_VALUE - 1));
    }

    private static void sumOfOnes() {
        StripMachine m = new StripMachine();
        int due = 0;
        for (int k = 0; k < 128; k++) {
            m.setV(k, -1);
            due = 31 * due - 1;
        }
        Check.due("sum: of each v(k)", m.sum(), due);
        Check.due("sum: it changes nothing", m.sum(), due);
        m.setX(1, 5);
        m.setWord(1, 5);
        Check.due("sum: of the v registers alone", m.sum(), due);
    }

    private static void lastCall() {
        StripMachine m = new StripMachine();
        for (int call = 1; call < 512; call++) {
            m.step(Words.of("vsetivli x1, 3, e8, m1"));
        }
        Check.due("at most 512 calls: the last", m.state(6), 511);
    }

    private static void beyond(StripMachine m, String call) {
        for (int k : FAR) {
            Check.due(call + "(" + k + "): IndexOutOfBoundsException", thrown(m, call, k), true);
        }
    }

    /** Whether a call throws the very class that the document names, and none below it. */
    private static boolean thrown(StripMachine m, String call, int k) {
        try {
            switch (call) {
                case "x": m.x(k); break;
                case "setX": m.setX(k, 99); break;
                case "v": m.v(k); break;
                case "setV": m.setV(k, 99); break;
                case "word": m.word(k); break;
                case "setWord": m.setWord(k, 99); break;
                case "shut": m.shut(k, true); break;
                case "open": m.shut(k, false); break;
                default: throw new IllegalArgumentException(call);
            }
        } catch (IndexOutOfBoundsException e) {
            return e.getClass() == IndexOutOfBoundsException.class;
        }
        return false;
    }
}
