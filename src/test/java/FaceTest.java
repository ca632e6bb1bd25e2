/** Promises 1 and 3 to 13: the state that is read and written without an instruction. */
public final class FaceTest {
    private static final int[] OUTSIDE = {-1, Integer.MIN_VALUE, Integer.MAX_VALUE};

    private FaceTest() {
    }

    public static void main(String[] args) {
        newObject();
        scalars();
        vectors();
        memory();
        pages();
        states();
        sums();
        Check.end();
    }

    private static void newObject() {
        StripMachine m = new StripMachine();
        for (int k = 0; k < 32; k++) {
            Check.due("new x(" + k + ")", m.x(k), 0);
        }
        for (int k = 0; k < 128; k++) {
            Check.due("new v(" + k + ")", m.v(k), 0);
        }
        for (int k = 0; k < 256; k++) {
            Check.due("new word(" + k + ")", m.word(k), 0);
        }
        for (int what = 0; what < 10; what++) {
            Check.due("new state(" + what + ")", m.state(what), what == 1 ? Integer.MIN_VALUE : 0);
        }
        Check.due("new sum()", m.sum(), 0);
        Check.due("NONE", StripMachine.NONE, -1);
    }

    private static void scalars() {
        StripMachine m = new StripMachine();
        for (int k = 0; k < 32; k++) {
            m.setX(k, 1000 - 77 * k);
        }
        for (int k = 0; k < 32; k++) {
            Check.due("x(" + k + ")", m.x(k), k == 0 ? 0 : 1000 - 77 * k);
        }
        for (int k : new int[] {32, OUTSIDE[0], OUTSIDE[1], OUTSIDE[2]}) {
            Check.due("x(" + k + ") throws", throwsFrom(m, 0, k), true);
            Check.due("setX(" + k + ") throws", throwsFrom(m, 1, k), true);
        }
        Check.due("x(1) stays", m.x(1), 923);
    }

    private static void vectors() {
        StripMachine m = new StripMachine();
        for (int k = 0; k < 128; k++) {
            m.setV(k, 0x01020304 * k + 5);
        }
        for (int k = 0; k < 128; k++) {
            Check.due("v(" + k + ")", m.v(k), 0x01020304 * k + 5);
        }
        for (int k : new int[] {128, OUTSIDE[0], OUTSIDE[1], OUTSIDE[2]}) {
            Check.due("v(" + k + ") throws", throwsFrom(m, 2, k), true);
            Check.due("setV(" + k + ") throws", throwsFrom(m, 3, k), true);
        }
    }

    private static void memory() {
        StripMachine m = new StripMachine();
        for (int k = 0; k < 256; k++) {
            m.setWord(k, 0x10203040 - 99 * k);
        }
        for (int k = 0; k < 256; k++) {
            Check.due("word(" + k + ")", m.word(k), 0x10203040 - 99 * k);
        }
        for (int k : new int[] {256, OUTSIDE[0], OUTSIDE[1], OUTSIDE[2]}) {
            Check.due("word(" + k + ") throws", throwsFrom(m, 4, k), true);
            Check.due("setWord(" + k + ") throws", throwsFrom(m, 5, k), true);
        }
    }

    private static void pages() {
        StripMachine m = new StripMachine();
        for (int page = 0; page < 16; page++) {
            m.shut(page, true);
            m.setWord(16 * page, page);
            Check.due("a word of a shut page is read and written", m.word(16 * page), page);
        }
        for (int page : new int[] {16, OUTSIDE[0], OUTSIDE[1], OUTSIDE[2]}) {
            Check.due("shut(" + page + ") throws", throwsFrom(m, 6, page), true);
        }
    }

    private static void states() {
        StripMachine m = new StripMachine();
        for (int what : new int[] {10, -1, 11, Integer.MIN_VALUE, Integer.MAX_VALUE}) {
            Check.due("state(" + what + ")", m.state(what), StripMachine.NONE);
            Check.due("setState(" + what + ")", m.setState(what, 1), false);
        }
        for (int what : new int[] {0, 1, 5, 6, 7, 8, 9}) {
            Check.due("setState(" + what + ")", m.setState(what, 1), false);
            Check.due("state(" + what + ") stays", m.state(what), what == 1 ? Integer.MIN_VALUE : 0);
        }
        int[] numbers = {0, 1, 2, 3, 4, 5, 126, 127, 128, 129, -1, -2, Integer.MIN_VALUE, Integer.MAX_VALUE};
        for (int number : numbers) {
            Check.due("setState(2)", m.setState(2, number), true);
            Check.due("VSTART of " + number, m.state(2), number & 127);
            Check.due("setState(3)", m.setState(3, number), true);
            Check.due("VXRM of " + number, m.state(3), number & 3);
            Check.due("setState(4)", m.setState(4, number), true);
            Check.due("VXSAT of " + number, m.state(4), number & 1);
            Check.due("VSTART stays", m.state(2), number & 127);
        }
    }

    private static void sums() {
        StripMachine m = new StripMachine();
        m.setV(127, 5);
        Check.due("sum of the last", m.sum(), 5);
        m.setV(126, 7);
        Check.due("sum of the last two", m.sum(), 7 * 31 + 5);
        int want = 0;
        for (int k = 0; k < 128; k++) {
            m.setV(k, 0x9E3779B9 * (k + 1));
            want = want * 31 + 0x9E3779B9 * (k + 1);
        }
        Check.due("sum going round", m.sum(), want);
    }

    private static boolean throwsFrom(StripMachine m, int call, int k) {
        try {
            switch (call) {
                case 0: m.x(k); break;
                case 1: m.setX(k, 1); break;
                case 2: m.v(k); break;
                case 3: m.setV(k, 1); break;
                case 4: m.word(k); break;
                case 5: m.setWord(k, 1); break;
                default: m.shut(k, true); break;
            }
        } catch (IndexOutOfBoundsException e) {
            // The class itself is asked for, not one that the machine throws.
            return e.getClass() == IndexOutOfBoundsException.class;
        }
        return false;
    }
}
