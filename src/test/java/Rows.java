/** The v registers as 512 bytes, and elements of them: what a test reckons its due answers on. */
final class Rows {
    final byte[] bytes = new byte[512];

    Rows copy() {
        Rows other = new Rows();
        System.arraycopy(bytes, 0, other.bytes, 0, 512);
        return other;
    }

    static Rows random(java.util.Random source) {
        Rows rows = new Rows();
        source.nextBytes(rows.bytes);
        for (int at = 0; at < 512; at++) {
            // Ends of the ranges are where answers differ most.
            int pick = source.nextInt(12);
            rows.bytes[at] = pick == 0 ? 0 : pick == 1 ? -1 : pick == 2 ? -128 : pick == 3 ? 127 : rows.bytes[at];
        }
        return rows;
    }

    long get(int register, int eew, int i) {
        if (eew == 1) {
            return (bytes[16 * register + i / 8] >> (i % 8)) & 1;
        }
        long value = 0;
        for (int k = eew / 8 - 1; k >= 0; k--) {
            value = value * 256 + (bytes[16 * register + i * (eew / 8) + k] & 255);
        }
        return value;
    }

    long signed(int register, int eew, int i) {
        long value = get(register, eew, i);
        return value >= 1L << (eew - 1) ? value - (1L << eew) : value;
    }

    void put(int register, int eew, int i, long value) {
        if (eew == 1) {
            int at = 16 * register + i / 8;
            int bit = 1 << (i % 8);
            bytes[at] = (byte) ((value & 1) == 1 ? bytes[at] | bit : bytes[at] & ~bit);
            return;
        }
        for (int k = 0; k < eew / 8; k++) {
            bytes[16 * register + i * (eew / 8) + k] = (byte) (value >> (8 * k));
        }
    }

    int word(int k) {
        return (bytes[4 * k] & 255) | (bytes[4 * k + 1] & 255) << 8 | (bytes[4 * k + 2] & 255) << 16 | bytes[4 * k + 3] << 24;
    }
}
