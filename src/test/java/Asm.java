/** Builds instruction words by the published encodings. */
final class Asm {
    static final int IVV = 0;
    static final int MVV = 2;
    static final int IVI = 3;
    static final int IVX = 4;
    static final int MVX = 6;

    static final int UNIT = 0;
    static final int UNORDERED = 1;
    static final int STRIDED = 2;
    static final int ORDERED = 3;

    private Asm() {
    }

    static int op(int funct6, int vm, int vs2, int s1, int form, int vd) {
        return 0x57 | vd << 7 | form << 12 | (s1 & 31) << 15 | vs2 << 20 | vm << 25 | funct6 << 26;
    }

    static int vsetvli(int rd, int rs1, int vtype) {
        return 0x57 | rd << 7 | 7 << 12 | rs1 << 15 | vtype << 20;
    }

    static int vsetivli(int rd, int number, int vtype) {
        return 0x57 | rd << 7 | 7 << 12 | number << 15 | vtype << 20 | 3 << 30;
    }

    static int vsetvl(int rd, int rs1, int rs2) {
        return 0x57 | rd << 7 | 7 << 12 | rs1 << 15 | rs2 << 20 | 1 << 31;
    }

    static int load(int eew, int way, int vm, int second, int rs1, int vd) {
        return 0x07 | memory(eew, way, vm, second, rs1, vd);
    }

    static int store(int eew, int way, int vm, int second, int rs1, int vs3) {
        return 0x27 | memory(eew, way, vm, second, rs1, vs3);
    }

    static int fields(int word, int nf) {
        return word | nf << 29;
    }

    private static int memory(int eew, int way, int vm, int second, int rs1, int v) {
        int width = eew == 8 ? 0 : eew == 16 ? 5 : eew == 32 ? 6 : 7;
        return v << 7 | width << 12 | rs1 << 15 | second << 20 | vm << 25 | way << 26;
    }
}
