import java.util.Arrays;

/** A machine on which one sentence of the document is tried, with instructions in the manual's own texts. */
final class Bench {
    static final int VL = 0;
    static final int VTYPE = 1;
    static final int VSTART = 2;
    static final int VXRM = 3;
    static final int VXSAT = 4;
    static final int VLMAX = 5;
    static final int DONE = 6;
    static final int ILLEGAL = 7;
    static final int TRAPS = 8;
    static final int TRAP_ADDRESS = 9;

    private static final int MOST_CALLS = 512;
    private static final int SCRATCH = 31;

    private final String sentence;
    private final StripMachine machine = new StripMachine();
    private int calls;

    /** A machine that is new. */
    Bench(String sentence) {
        this.sentence = sentence;
    }

    /** A machine with a VTYPE, told as in "e8, m1, tu, mu", and a VL that it allows. */
    Bench(String sentence, String type, int vl) {
        this(sentence);
        type(type, vl);
    }

    void type(String type, int vl) {
        x(SCRATCH, vl);
        does("vsetvli x0, x31, " + type);
        x(SCRATCH, 0);
        is(VL, vl);
    }

    void x(int k, int value) {
        machine().setX(k, value);
    }

    void word(int k, int value) {
        machine().setWord(k, value);
    }

    void shut(int page, boolean is) {
        machine().shut(page, is);
    }

    void choose(long choices) {
        machine().choose(choices);
    }

    void set(int what, int value) {
        due("setState(" + what + ", " + value + ")", machine().setState(what, value) ? 1 : 0, 1);
    }

    /** Elements of a register, and of those behind it, from element 0 on. */
    void put(int register, int eew, long... values) {
        for (int i = 0; i < values.length; i++) {
            int bit = 128 * register + eew * i;
            int at = bit / 32;
            int place = (int) ((1L << eew) - 1) << (bit % 32);
            int old = machine().v(at);
            machine().setV(at, old & ~place | (int) values[i] << (bit % 32) & place);
        }
    }

    /** All bytes of some registers become one number. */
    void fill(int register, int count, int value) {
        for (int k = 4 * register; k < 4 * (register + count); k++) {
            machine().setV(k, 0x01010101 * (value & 255));
        }
    }

    int step(int word) {
        return machine().step(word);
    }

    void does(String text) {
        due(text, step(Words.of(text)), 0);
    }

    /** The words that are ILLEGAL: no register of the v ones and nothing of the state becomes other than it was. */
    void refuses(String text) {
        refuses(text, Words.of(text));
    }

    void refuses(String text, int word) {
        int[] before = states();
        int sum = machine().sum();
        due(text, step(word), 1);
        before[ILLEGAL]++;
        int[] after = states();
        for (int what = 0; what < before.length; what++) {
            due(text + ": state(" + what + ")", after[what], before[what]);
        }
        due(text + ": sum()", machine().sum(), sum);
    }

    void traps(String text, int number, int address) {
        due(text, step(Words.of(text)), 2);
        is(VSTART, number);
        is(TRAP_ADDRESS, address);
    }

    void is(int what, int due) {
        due("state(" + what + ")", machine().state(what), due);
    }

    void isX(int k, int due) {
        due("x(" + k + ")", machine().x(k), due);
    }

    void isWord(int k, int due) {
        due("word(" + k + ")", machine().word(k), due);
    }

    /** Elements of a register, and of those behind it, from element 0 on, without sign. */
    void row(int register, int eew, long... due) {
        for (int i = 0; i < due.length; i++) {
            due("v" + register + "[" + i + "]", element(register, eew, i), due[i] & ((1L << eew) - 1));
        }
    }

    void rowIs(int register, int eew, int from, int to, long due) {
        for (int i = from; i < to; i++) {
            due("v" + register + "[" + i + "]", element(register, eew, i), due & ((1L << eew) - 1));
        }
    }

    void rowIs(int register, int count, int due) {
        rowIs(register, 32, 0, 4 * count, 0x01010101 * (due & 255));
    }

    long element(int register, int eew, int i) {
        int bit = 128 * register + eew * i;
        return (machine().v(bit / 32) >>> (bit % 32)) & ((1L << eew) - 1);
    }

    void due(String what, long got, long due) {
        Check.due(sentence + " | " + what, got, due);
    }

    /** What an object answers behind its last call is free, so no test may ask for it. */
    StripMachine machine() {
        calls++;
        if (calls > MOST_CALLS) {
            throw new IllegalStateException("too many calls: " + sentence);
        }
        return machine;
    }

    private int[] states() {
        int[] all = new int[10];
        Arrays.setAll(all, what -> machine().state(what));
        return all;
    }
}
