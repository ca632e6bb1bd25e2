import java.util.List;
import java.util.Random;

/** Promises 1 to 13 together: long runs of calls of all kinds, each answer of which is compared with the Model's. */
public final class ModelTest {
    private static final Random SOURCE = new Random(64);
    private static final int RUNS = 12000;
    private static final int MOST_CALLS = 512;
    // 13 calls are a step and what is asked of it.
    private static final int CALLS_OF_A_ROUND = 13 + 7 + 1 + 13;
    // 16 pages are opened, VSTART is set, 8 parts of the memory are loaded and summed, and single words are asked for.
    private static final int CALLS_AT_END = 16 + 1 + 8 * 3 + 16;
    private static final int LOAD_EIGHT = Words.of("vl8re8.v v8, (x1)");
    private static final List<Model.Entry> ENTRIES = Model.entries();

    private final StripMachine machine = new StripMachine();
    private final Model model = new Model();
    private final int run;
    private int calls;
    private String latest = "new";

    private ModelTest(int run) {
        this.run = run;
    }

    public static void main(String[] args) {
        for (int run = 0; run < RUNS; run++) {
            new ModelTest(run).go();
        }
        Check.end();
    }

    private void go() {
        fillRegisters();
        fillMemory();
        while (calls + CALLS_OF_A_ROUND + CALLS_AT_END <= MOST_CALLS) {
            disturb();
            step(isOneIn(12) ? anyLength() : isOneIn(4) ? anyTransfer() : anyArithmetic());
        }
        compareWords();
        compareMemory();
        Check.due("no run is longer than an object's calls", calls <= MOST_CALLS, true);
    }

    private static boolean isOneIn(int count) {
        return SOURCE.nextInt(count) == 0;
    }

    private void due(String what, long got, long want) {
        Check.due("run " + run + ": " + latest + ": " + what, got, want);
    }

    // Calls on both

    private void step(int word) {
        latest = "step(" + word + ") of VTYPE " + model.state[1] + ", VL " + model.state[0] + ", VSTART " + model.state[2];
        calls += 13;
        due("answer", machine.step(word), model.step(word));
        for (int what = 0; what < 10; what++) {
            due("state(" + what + ")", machine.state(what), model.state[what]);
        }
        int rd = word >>> 7 & 31;
        due("x(" + rd + ")", machine.x(rd), model.x[rd]);
        due("sum()", machine.sum(), model.sum());
    }

    private void setX(int k, int value) {
        calls++;
        machine.setX(k, value);
        if (k != 0) {
            model.x[k] = value;
        }
    }

    private void setV(int k, int value) {
        calls++;
        machine.setV(k, value);
        model.v.put(0, 32, k, value);
    }

    private void setWord(int k, int value) {
        calls++;
        machine.setWord(k, value);
        model.setWord(k, value);
    }

    private void setState(int what, int value) {
        calls++;
        due("setState(" + what + ")", machine.setState(what, value) ? 1 : 0, 1);
        model.state[what] = value & (what == 2 ? 127 : what == 3 ? 3 : 1);
    }

    private void shut(int page, boolean is) {
        calls++;
        machine.shut(page, is);
        model.shut[page] = is;
    }

    private void choose(long choices) {
        calls++;
        machine.choose(choices);
        model.choices = choices;
    }

    // The state

    private void fillRegisters() {
        model.v = Rows.random(SOURCE);
        // Indices that stay in the memory, of 16 bits and of 32.
        for (int i = 0; i < 32; i++) {
            model.v.put(16, 16, i, SOURCE.nextInt(1000));
            model.v.put(20, 32, i, SOURCE.nextInt(1000));
        }
        for (int k = 0; k < 128; k++) {
            setV(k, model.v.word(k));
        }
        for (int k = 0; k < 32; k++) {
            setX(k, k < 8 ? SOURCE.nextInt(1050) - 10 : k < 12 ? SOURCE.nextInt(40) - 12 : Setup.randomNumber(SOURCE));
        }
        choose(isOneIn(4) ? -1L : SOURCE.nextLong());
        setState(3, SOURCE.nextInt());
    }

    private void fillMemory() {
        for (int part = 0; part < 8; part++) {
            setX(1, 128 * part);
            calls++;
            int word = Words.of("vs8r.v v" + part % 4 * 8 + ", (x1)");
            due("vs8r", machine.step(word), model.step(word));
        }
    }

    private void compareMemory() {
        for (int page = 0; page < 16; page++) {
            shut(page, false);
        }
        latest = "the memory at the end";
        setState(2, 0);
        for (int part = 0; part < 8; part++) {
            setX(1, 128 * part);
            calls += 2;
            due("vl8re", machine.step(LOAD_EIGHT), model.step(LOAD_EIGHT));
            due("part " + part, machine.sum(), model.sum());
        }
    }

    private void compareWords() {
        latest = "words at the end";
        for (int k = 0; k < 8; k++) {
            int ofV = SOURCE.nextInt(128);
            int ofMemory = SOURCE.nextInt(256);
            calls += 2;
            due("v(" + ofV + ")", machine.v(ofV), model.v.word(ofV));
            due("word(" + ofMemory + ")", machine.word(ofMemory), model.word(ofMemory));
        }
    }

    private void disturb() {
        if (model.state[1] < 0) {
            step(aLength());
        }
        if (isOneIn(5)) {
            setState(2, isOneIn(3) ? SOURCE.nextInt() : SOURCE.nextInt(model.state[0] + 2));
        }
        if (isOneIn(8)) {
            setState(SOURCE.nextInt(2) + 3, SOURCE.nextInt());
        }
        if (isOneIn(4)) {
            shut(SOURCE.nextInt(16), isOneIn(3));
        }
        if (isOneIn(6)) {
            choose(SOURCE.nextLong());
        }
        if (isOneIn(3)) {
            setX(1 + SOURCE.nextInt(7), SOURCE.nextInt(1050) - 10);
        }
        if (isOneIn(4)) {
            setV(SOURCE.nextInt(128), Setup.randomNumber(SOURCE));
            setWord(SOURCE.nextInt(256), Setup.randomNumber(SOURCE));
        }
    }

    // Words

    private int aLength() {
        int vtype = SOURCE.nextInt(256) & ~0x20;
        return isOneIn(2) ? Asm.vsetvli(31, 0, vtype) : Asm.vsetivli(31, SOURCE.nextInt(32), vtype);
    }

    private int anyLength() {
        int rd = isOneIn(3) ? 0 : 28 + SOURCE.nextInt(4);
        int rs1 = isOneIn(3) ? 0 : SOURCE.nextInt(32);
        switch (SOURCE.nextInt(4)) {
            case 0:
                return aLength();
            case 1:
                // Often of the same VLMAX as before.
                return Asm.vsetvli(rd, rs1, (isOneIn(2) ? model.state[1] & 63 : SOURCE.nextInt(64)) | SOURCE.nextInt(4) << 6);
            case 2:
                setX(27, isOneIn(4) ? SOURCE.nextInt() : SOURCE.nextInt(256));
                return Asm.vsetvl(rd, rs1, 27);
            default:
                setX(26, SOURCE.nextInt(270));
                return Asm.vsetvli(rd, 26, SOURCE.nextInt(256) & ~0x20);
        }
    }

    private int register() {
        return SOURCE.nextInt(32) & -(1 << SOURCE.nextInt(4));
    }

    private int anyArithmetic() {
        Model.Entry entry = ENTRIES.get(SOURCE.nextInt(ENTRIES.size()));
        int operands = register() << 7 | (isOneIn(2) ? register() : SOURCE.nextInt(32)) << 15 | register() << 20;
        int word = entry.bits | (operands | SOURCE.nextInt(2) << 25) & ~entry.mask;
        return isOneIn(12) ? word ^ 1 << SOURCE.nextInt(32) : word;
    }

    private int anyTransfer() {
        int eew = 8 << SOURCE.nextInt(3);
        int way = SOURCE.nextInt(4);
        int[] units = {0, 0, 8, 11, 16, 16};
        int second = way == Asm.UNIT ? units[SOURCE.nextInt(units.length)]
            : way == Asm.STRIDED ? 8 + SOURCE.nextInt(4) : isOneIn(2) ? 16 + (register() & 7) : register();
        int word = Asm.load(eew, way, SOURCE.nextInt(2), second, SOURCE.nextInt(9), register());
        if (second == 8 && way == Asm.UNIT) {
            word = Asm.fields(word, isOneIn(6) ? SOURCE.nextInt(8) : (1 << SOURCE.nextInt(4)) - 1);
        }
        word |= SOURCE.nextInt(2) << 5;
        return isOneIn(16) ? word ^ 1 << SOURCE.nextInt(32) : word;
    }
}
