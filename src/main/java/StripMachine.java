public final class StripMachine {
    public static final int NONE = -1;

    private static final int DONE = 0;
    private static final int ILLEGAL = 1;
    private static final int TRAP = 2;

    private static final int SCALARS = 32;
    private static final int REGISTER_BITS = 128;
    private static final int VECTOR_WORDS = 128;
    private static final int MEMORY_BYTES = 1024;
    private static final int MEMORY_WORDS = 256;
    private static final int PAGES = 16;
    private static final int VILL = 1 << 31;

    // LMUL and EMUL are counted in eighths, so that the fractions stay whole numbers.
    private static final int WHOLE = 8;
    private static final int MOST_EIGHTHS = 64;
    private static final int MOST_EEW = 32;
    private static final int MASK_EEW = 1;

    private static final int CODE_LOAD = 0x07;
    private static final int CODE_STORE = 0x27;
    private static final int CODE_VECTOR = 0x57;

    // bits 14 .. 12 of an instruction of CODE_VECTOR
    private static final int FORM_IVV = 0;
    private static final int FORM_MVV = 2;
    private static final int FORM_IVI = 3;
    private static final int FORM_IVX = 4;
    private static final int FORM_MVX = 6;
    private static final int FORM_SET = 7;

    // An operation is bits 31 .. 26, and M on top of it for the forms MVV and MVX.
    private static final int M = 64;

    private static final int VADD = 0;
    private static final int VSUB = 2;
    private static final int VRSUB = 3;
    private static final int VMINU = 4;
    private static final int VMIN = 5;
    private static final int VMAXU = 6;
    private static final int VMAX = 7;
    private static final int VAND = 9;
    private static final int VOR = 10;
    private static final int VXOR = 11;
    private static final int VSLIDEUP_OR_GATHER16 = 14;
    private static final int VADC = 16;
    private static final int VMADC = 17;
    private static final int VMSEQ = 24;
    private static final int VMSNE = 25;
    private static final int VMSLTU = 26;
    private static final int VMSLT = 27;
    private static final int VMSLEU = 28;
    private static final int VMSLE = 29;
    private static final int VMSGTU = 30;
    private static final int VMSGT = 31;
    private static final int VSADDU = 32;
    private static final int VSADD = 33;
    private static final int VSSUBU = 34;
    private static final int VSSUB = 35;
    private static final int VSLL = 37;
    private static final int VSMUL_OR_MOVE = 39;
    private static final int VSRL = 40;
    private static final int VSRA = 41;
    private static final int VSSRL = 42;
    private static final int VSSRA = 43;
    private static final int VNSRL = 44;
    private static final int VNSRA = 45;
    private static final int VNCLIPU = 46;
    private static final int VNCLIP = 47;
    private static final int VWREDSUMU = 48;
    private static final int VWREDSUM = 49;

    private static final int VREDSUM = M;
    private static final int VREDAND = M + 1;
    private static final int VREDOR = M + 2;
    private static final int VREDXOR = M + 3;
    private static final int VREDMINU = M + 4;
    private static final int VREDMIN = M + 5;
    private static final int VREDMAXU = M + 6;
    private static final int VREDMAX = M + 7;
    private static final int VAADDU = M + 8;
    private static final int VAADD = M + 9;
    private static final int VASUBU = M + 10;
    private static final int VASUB = M + 11;
    private static final int SCALAR_GROUP = M + 16;
    private static final int EXTENSION_GROUP = M + 18;
    private static final int MASK_GROUP = M + 20;
    private static final int VMANDN = M + 24;
    private static final int VMAND = M + 25;
    private static final int VMOR = M + 26;
    private static final int VMXOR = M + 27;
    private static final int VMORN = M + 28;
    private static final int VMNAND = M + 29;
    private static final int VMNOR = M + 30;
    private static final int VMXNOR = M + 31;
    private static final int VDIVU = M + 32;
    private static final int VDIV = M + 33;
    private static final int VREMU = M + 34;
    private static final int VREM = M + 35;
    private static final int VMULHU = M + 36;
    private static final int VMUL = M + 37;
    private static final int VMULHSU = M + 38;
    private static final int VMULH = M + 39;
    private static final int VMADD = M + 41;
    private static final int VNMSUB = M + 43;
    private static final int VMACC = M + 45;
    private static final int VNMSAC = M + 47;
    private static final int VWADDU = M + 48;
    private static final int VWADD = M + 49;
    private static final int VWSUBU = M + 50;
    private static final int VWSUB = M + 51;
    private static final int VWADDU_W = M + 52;
    private static final int VWADD_W = M + 53;
    private static final int VWSUBU_W = M + 54;
    private static final int VWSUB_W = M + 55;
    private static final int VWMULU = M + 56;
    private static final int VWMULSU = M + 58;
    private static final int VWMUL = M + 59;
    private static final int VWMACCU = M + 60;
    private static final int VWMACC = M + 61;
    private static final int VWMACCUS = M + 62;
    private static final int VWMACCSU = M + 63;

    // A kind holds the operations that read and write groups of the same widths in the same way.
    private static final int UNKNOWN = 0;
    private static final int PLAIN = 1;
    private static final int COMPARE = 2;
    private static final int CARRY_IN = 3;
    private static final int CARRY_OUT = 4;
    private static final int MERGE = 5;
    private static final int NARROW = 6;
    private static final int WIDEN = 7;
    private static final int WIDEN_WIDE = 8;
    private static final int EXTEND = 9;
    private static final int REDUCE = 10;
    private static final int REDUCE_WIDE = 11;
    private static final int MASK_LOGIC = 12;
    private static final int COUNT = 13;
    private static final int FIRST_BIT = 14;
    private static final int IOTA = 15;
    private static final int NUMBER = 16;
    private static final int READ_SCALAR = 17;
    private static final int WRITE_SCALAR = 18;
    private static final int SLIDE_UP = 19;
    private static final int SLIDE_DOWN = 20;
    private static final int SLIDE_ONE_UP = 21;
    private static final int SLIDE_ONE_DOWN = 22;
    private static final int GATHER = 23;
    private static final int GATHER_16 = 24;
    private static final int COMPRESS = 25;
    private static final int WHOLE_MOVE = 26;

    private final Registers now;
    private final Memory memory;
    private final Instruction current;
    private final LengthUnit lengthUnit;
    private final Lanes lanes;
    private final Port port;
    private int doneCount;
    private int illegalCount;
    private int trapCount;

    public StripMachine() {
        now = new Registers();
        memory = new Memory();
        current = new Instruction();
        lengthUnit = new LengthUnit(now);
        lanes = new Lanes(now);
        port = new Port(now, memory);
    }

    public int step(int word) {
        current.take(word);
        int answer = ILLEGAL;
        if (current.code == CODE_LOAD || current.code == CODE_STORE) {
            answer = port.execute(current);
        } else if (current.code == CODE_VECTOR) {
            answer = current.form == FORM_SET ? lengthUnit.execute(current) : lanes.execute(current);
        }
        if (answer == DONE) {
            now.start = 0;
            doneCount++;
        } else if (answer == ILLEGAL) {
            illegalCount++;
        } else {
            trapCount++;
        }
        return answer;
    }

    public void choose(long choices) {
        now.choices = choices;
    }

    public int x(int k) throws IndexOutOfBoundsException {
        if (k < 0 || k >= SCALARS) {
            throw new IndexOutOfBoundsException("no such x register");
        }
        return now.scalar(k);
    }

    public void setX(int k, int v) throws IndexOutOfBoundsException {
        if (k < 0 || k >= SCALARS) {
            throw new IndexOutOfBoundsException("no such x register");
        }
        now.putScalar(k, v);
    }

    public int v(int k) throws IndexOutOfBoundsException {
        if (k < 0 || k >= VECTOR_WORDS) {
            throw new IndexOutOfBoundsException("no such word of the v registers");
        }
        return now.vectors[k];
    }

    public void setV(int k, int v) throws IndexOutOfBoundsException {
        if (k < 0 || k >= VECTOR_WORDS) {
            throw new IndexOutOfBoundsException("no such word of the v registers");
        }
        now.vectors[k] = v;
    }

    public int word(int k) throws IndexOutOfBoundsException {
        if (k < 0 || k >= MEMORY_WORDS) {
            throw new IndexOutOfBoundsException("no such word of the memory");
        }
        return memory.words[k];
    }

    public void setWord(int k, int v) throws IndexOutOfBoundsException {
        if (k < 0 || k >= MEMORY_WORDS) {
            throw new IndexOutOfBoundsException("no such word of the memory");
        }
        memory.words[k] = v;
    }

    public void shut(int page, boolean is) throws IndexOutOfBoundsException {
        if (page < 0 || page >= PAGES) {
            throw new IndexOutOfBoundsException("no such page");
        }
        memory.close(page, is);
    }

    public int state(int what) {
        switch (what) {
            case 0: return now.length;
            case 1: return now.type.bits;
            case 2: return now.start;
            case 3: return now.rounding;
            case 4: return now.saturated;
            case 5: return now.type.most;
            case 6: return doneCount;
            case 7: return illegalCount;
            case 8: return trapCount;
            case 9: return port.trapAddress;
            default: return NONE;
        }
    }

    public boolean setState(int what, int v) {
        switch (what) {
            case 2:
                now.start = v & 127;
                return true;
            case 3:
                now.rounding = v & 3;
                return true;
            case 4:
                now.saturated = v & 1;
                return true;
            default:
                return false;
        }
    }

    public int sum() {
        int total = 0;
        for (int k = 0; k < VECTOR_WORDS; k++) {
            total = 31 * total + now.vectors[k];
        }
        return total;
    }

    private static long ones(int bits) {
        return (1L << bits) - 1;
    }

    private static long signed(long value, int bits) {
        return value << (64 - bits) >> (64 - bits);
    }

    /** The fields of the instruction word that is at work. */
    private static final class Instruction {
        int bits;
        int code;
        int form;
        int rd;
        int rs1;
        int rs2;
        int high;
        boolean masked;

        void take(int word) {
            bits = word;
            code = word & 127;
            rd = (word >>> 7) & 31;
            form = (word >>> 12) & 7;
            rs1 = (word >>> 15) & 31;
            rs2 = (word >>> 20) & 31;
            masked = ((word >>> 25) & 1) == 0;
            high = word >>> 26;
        }

        boolean takesVector() {
            return form == FORM_IVV || form == FORM_MVV;
        }

        boolean takesNumber() {
            return form == FORM_IVI;
        }

        int operation() {
            return form == FORM_MVV || form == FORM_MVX ? M + high : high;
        }
    }

    /** VTYPE, and what follows from it. */
    private static final class VectorType {
        int bits;
        int sew;
        int eighths;
        int most;
        boolean tailOpen;
        boolean maskedOpen;

        VectorType() {
            bits = VILL;
        }

        void become(int told) {
            int width = 8 << ((told >>> 3) & 7);
            int multiple = eighthsOfCode(told & 7);
            if ((told >>> 8) != 0 || width > MOST_EEW || multiple == 0 || width > 4 * multiple) {
                becomeIll();
                return;
            }
            bits = told;
            sew = width;
            eighths = multiple;
            most = multiple * (REGISTER_BITS / 8) / width;
            tailOpen = (told & 64) != 0;
            maskedOpen = (told & 128) != 0;
        }

        void becomeIll() {
            bits = VILL;
            sew = 0;
            eighths = 0;
            most = 0;
            tailOpen = false;
            maskedOpen = false;
        }

        boolean isIll() {
            return bits == VILL;
        }

        int eighthsFor(int eew) {
            if (eew == MASK_EEW) {
                return WHOLE;
            }
            return sew == 0 ? 0 : eighths * eew / sew;
        }

        private static int eighthsOfCode(int code) {
            if (code < 4) {
                return WHOLE << code;
            }
            return code == 7 ? WHOLE / 2 : code == 6 ? WHOLE / 4 : 0;
        }
    }

    /** All that instructions read and write, but for the memory. */
    private static final class Registers {
        final int[] scalars;
        final int[] vectors;
        final VectorType type;
        int length;
        int start;
        int rounding;
        int saturated;
        long choices;

        Registers() {
            scalars = new int[SCALARS];
            vectors = new int[VECTOR_WORDS];
            type = new VectorType();
        }

        int scalar(int k) {
            return k > 0 && k < SCALARS ? scalars[k] : 0;
        }

        void putScalar(int k, int value) {
            if (k > 0 && k < SCALARS) {
                scalars[k] = value;
            }
        }

        boolean isChosen(int i) {
            return ((choices >>> (i & 63)) & 1) == 1;
        }
    }

    /** A group of v registers, seen as a row of elements; a mask is a row of elements of one bit. */
    private static final class Group {
        private final Registers owner;
        int first;
        int eew;
        int eighths;
        int registers;
        private long full;

        /** At first it is v0 as a mask. */
        Group(Registers owner) {
            this.owner = owner;
            eew = MASK_EEW;
            eighths = WHOLE;
            registers = 1;
            full = 1;
        }

        void cover(int number, int width, int multiple) {
            first = number;
            eew = width;
            eighths = multiple;
            registers = multiple > WHOLE ? multiple / WHOLE : 1;
            full = ones(width);
        }

        boolean isLegal() {
            boolean known = eew == MASK_EEW || eew == 8 || eew == 16 || eew == MOST_EEW;
            return known && eighths >= 1 && eighths <= MOST_EIGHTHS && (first & (registers - 1)) == 0;
        }

        boolean meets(Group other) {
            return first < other.first + other.registers && other.first < first + registers;
        }

        boolean mayOverwrite(Group source) {
            if (!meets(source) || eew == source.eew) {
                return true;
            }
            if (eew < source.eew) {
                return first == source.first;
            }
            return source.eighths >= WHOLE && first + registers == source.first + source.registers;
        }

        int capacity() {
            return eew < 1 ? 0 : registers * REGISTER_BITS / eew;
        }

        long element(int i) {
            int bit = first * REGISTER_BITS + i * eew;
            int at = bit >> 5;
            if (at < 0 || at >= VECTOR_WORDS) {
                return 0;
            }
            return (owner.vectors[at] >>> (bit & 31)) & full;
        }

        void put(int i, long value) {
            int bit = first * REGISTER_BITS + i * eew;
            int at = bit >> 5;
            if (at < 0 || at >= VECTOR_WORDS) {
                return;
            }
            int place = (int) full << (bit & 31);
            int moved = (int) value << (bit & 31);
            owner.vectors[at] = (owner.vectors[at] & ~place) | (moved & place);
        }

        void leaveOpen(int i) {
            if (owner.isChosen(i)) {
                put(i, -1);
            }
        }

        /** The elements from a number on are the tail, of this or of a mask's bytes. */
        void leaveTail(int from, boolean isOfMask) {
            if (!isOfMask && !owner.type.tailOpen) {
                return;
            }
            int end = capacity();
            for (int i = from; i < end; i++) {
                leaveOpen(i);
            }
        }
    }

    private static final class Memory {
        final int[] words;
        private int shutPages;

        Memory() {
            words = new int[MEMORY_WORDS];
        }

        void close(int page, boolean is) {
            int bit = 1 << page;
            shutPages = is ? shutPages | bit : shutPages & ~bit;
        }

        boolean admits(int address, int bytes) {
            if (address < 0 || address > MEMORY_BYTES - bytes) {
                return false;
            }
            return isOpenAt(address) && isOpenAt(address + bytes - 1);
        }

        long load(int address, int bytes) {
            long value = 0;
            for (int k = 0; k < bytes; k++) {
                value |= (long) byteAt(address + k) << (8 * k);
            }
            return value;
        }

        void store(int address, int bytes, long value) {
            for (int k = 0; k < bytes; k++) {
                putByte(address + k, (int) (value >>> (8 * k)) & 255);
            }
        }

        private boolean isOpenAt(int address) {
            return ((shutPages >>> (address >> 6)) & 1) == 0;
        }

        private int byteAt(int address) {
            int at = address >> 2;
            if (at < 0 || at >= MEMORY_WORDS) {
                return 0;
            }
            return (words[at] >>> (8 * (address & 3))) & 255;
        }

        private void putByte(int address, int value) {
            int at = address >> 2;
            if (at < 0 || at >= MEMORY_WORDS) {
                return;
            }
            int shift = 8 * (address & 3);
            words[at] = (words[at] & ~(255 << shift)) | (value << shift);
        }
    }

    /** vsetvli, vsetivli, vsetvl. */
    private static final class LengthUnit {
        private static final long NO_END = 1L << 32;
        private static final long STAYS = -1;

        private final Registers now;

        LengthUnit(Registers now) {
            this.now = now;
        }

        int execute(Instruction in) {
            if (in.bits >= 0) {
                grant(in.rd, (in.bits >>> 20) & 0x7FF, lengthInRegister(in));
                return DONE;
            }
            if ((in.bits >>> 30) == 3) {
                grant(in.rd, (in.bits >>> 20) & 0x3FF, in.rs1);
                return DONE;
            }
            if ((in.bits >>> 25) == 0x40) {
                grant(in.rd, now.scalar(in.rs2), lengthInRegister(in));
                return DONE;
            }
            return ILLEGAL;
        }

        private long lengthInRegister(Instruction in) {
            if (in.rs1 != 0) {
                return now.scalar(in.rs1) & ones(32);
            }
            return in.rd != 0 ? NO_END : STAYS;
        }

        private void grant(int rd, int told, long asked) {
            int before = now.type.most;
            now.type.become(told);
            // VLMAX is 0 under VILL, so this covers a VTYPE that was VILL before, too.
            if (asked == STAYS && now.type.most != before) {
                now.type.becomeIll();
            }
            if (now.type.isIll()) {
                now.length = 0;
            } else if (asked != STAYS) {
                now.length = granted(asked, now.type.most);
            }
            now.putScalar(rd, now.length);
        }

        private int granted(long asked, int most) {
            if (asked <= most) {
                return (int) asked;
            }
            if (asked >= 2L * most) {
                return most;
            }
            int least = (int) ((asked + 1) / 2);
            return least + choicesModulo(most - least + 1);
        }

        private int choicesModulo(int count) {
            if (count < 1) {
                return 0;
            }
            // The choices have no sign: the upper 63 bits are a number without one, and the lowest is added.
            long upper = (now.choices >>> 1) % count;
            return (int) ((2 * upper + (now.choices & 1)) % count);
        }
    }

    /** Finds the kind of an arithmetic instruction, from tables of the forms and kinds that the manual gives. */
    private static final class Decoder {
        private static final int V = 32;
        private static final int X = 64;
        private static final int I = 128;
        private static final int VX = V + X;
        private static final int XI = X + I;
        private static final int VXI = V + X + I;
        private static final int KIND_BITS = 31;

        private static final int[] KINDS = {
            VXI + PLAIN, 0, VX + PLAIN, XI + PLAIN,
            VX + PLAIN, VX + PLAIN, VX + PLAIN, VX + PLAIN,
            0, VXI + PLAIN, VXI + PLAIN, VXI + PLAIN,
            VXI + GATHER, 0, VXI + SLIDE_UP, XI + SLIDE_DOWN,
            VXI + CARRY_IN, VXI + CARRY_OUT, VX + CARRY_IN, VX + CARRY_OUT,
            0, 0, 0, VXI + MERGE,
            VXI + COMPARE, VXI + COMPARE, VX + COMPARE, VX + COMPARE,
            VXI + COMPARE, VXI + COMPARE, XI + COMPARE, XI + COMPARE,
            VXI + PLAIN, VXI + PLAIN, VX + PLAIN, VX + PLAIN,
            0, VXI + PLAIN, 0, VXI + PLAIN,
            VXI + PLAIN, VXI + PLAIN, VXI + PLAIN, VXI + PLAIN,
            VXI + NARROW, VXI + NARROW, VXI + NARROW, VXI + NARROW,
            V + REDUCE_WIDE, V + REDUCE_WIDE, 0, 0,
            0, 0, 0, 0,
            0, 0, 0, 0,
            0, 0, 0, 0,

            V + REDUCE, V + REDUCE, V + REDUCE, V + REDUCE,
            V + REDUCE, V + REDUCE, V + REDUCE, V + REDUCE,
            VX + PLAIN, VX + PLAIN, VX + PLAIN, VX + PLAIN,
            0, 0, X + SLIDE_ONE_UP, X + SLIDE_ONE_DOWN,
            VX + READ_SCALAR, 0, V + EXTEND, 0,
            V + FIRST_BIT, 0, 0, V + COMPRESS,
            V + MASK_LOGIC, V + MASK_LOGIC, V + MASK_LOGIC, V + MASK_LOGIC,
            V + MASK_LOGIC, V + MASK_LOGIC, V + MASK_LOGIC, V + MASK_LOGIC,
            VX + PLAIN, VX + PLAIN, VX + PLAIN, VX + PLAIN,
            VX + PLAIN, VX + PLAIN, VX + PLAIN, VX + PLAIN,
            0, VX + PLAIN, 0, VX + PLAIN,
            0, VX + PLAIN, 0, VX + PLAIN,
            VX + WIDEN, VX + WIDEN, VX + WIDEN, VX + WIDEN,
            VX + WIDEN_WIDE, VX + WIDEN_WIDE, VX + WIDEN_WIDE, VX + WIDEN_WIDE,
            VX + WIDEN, 0, VX + WIDEN, VX + WIDEN,
            VX + WIDEN, VX + WIDEN, X + WIDEN, VX + WIDEN
        };

        static int kindOf(Instruction in) {
            int entry = entryOf(in.operation());
            if ((entry & formBit(in.form)) == 0) {
                return UNKNOWN;
            }
            int kind = refined(in, entry & KIND_BITS);
            return isMaskBitRight(in, kind) ? kind : UNKNOWN;
        }

        private static int entryOf(int operation) {
            return operation >= 0 && operation < KINDS.length ? KINDS[operation] : 0;
        }

        private static int formBit(int form) {
            switch (form) {
                case FORM_IVV:
                case FORM_MVV:
                    return V;
                case FORM_IVX:
                case FORM_MVX:
                    return X;
                case FORM_IVI:
                    return I;
                default:
                    return 0;
            }
        }

        private static int refined(Instruction in, int kind) {
            switch (in.operation()) {
                case VSLIDEUP_OR_GATHER16:
                    return in.takesVector() ? GATHER_16 : kind;
                case VSMUL_OR_MOVE:
                    return in.takesNumber() ? wholeMove(in.rs1) : kind;
                case SCALAR_GROUP:
                    return in.takesVector() ? intoScalar(in.rs1) : in.rs2 == 0 ? WRITE_SCALAR : UNKNOWN;
                case EXTENSION_GROUP:
                    return in.rs1 >= 4 && in.rs1 <= 7 ? kind : UNKNOWN;
                case MASK_GROUP:
                    return fromMask(in.rs1, in.rs2);
                default:
                    return kind;
            }
        }

        private static int wholeMove(int number) {
            return number == 0 || number == 1 || number == 3 || number == 7 ? WHOLE_MOVE : UNKNOWN;
        }

        private static int intoScalar(int selector) {
            switch (selector) {
                case 0: return READ_SCALAR;
                case 16: return COUNT;
                case 17: return COUNT;
                default: return UNKNOWN;
            }
        }

        private static int fromMask(int selector, int vs2) {
            switch (selector) {
                case 1: return FIRST_BIT;
                case 2: return FIRST_BIT;
                case 3: return FIRST_BIT;
                case 16: return IOTA;
                case 17: return vs2 == 0 ? NUMBER : UNKNOWN;
                default: return UNKNOWN;
            }
        }

        private static boolean isMaskBitRight(Instruction in, int kind) {
            switch (kind) {
                case CARRY_IN:
                    return in.masked;
                case MERGE:
                    return in.masked || in.rs2 == 0;
                case MASK_LOGIC:
                case COMPRESS:
                case WHOLE_MOVE:
                case READ_SCALAR:
                case WRITE_SCALAR:
                    return !in.masked;
                default:
                    return true;
            }
        }
    }

    /** What becomes of single elements; a is of vs2, b the second one, d of vd, all without sign. */
    private static final class Alu {
        private final Registers now;
        private int sew;
        private long greatest;
        private long greatestSigned;
        private long leastSigned;

        Alu(Registers now) {
            this.now = now;
        }

        void setWidth(int width) {
            sew = width;
            greatest = ones(width);
            greatestSigned = greatest >> 1;
            leastSigned = -greatestSigned - 1;
        }

        long result(int operation, long a, long b, long d) {
            if (operation < VSADDU) {
                return simple(operation, a, b);
            }
            if (operation < VNSRL) {
                return saturatingOrShift(operation, a, b);
            }
            if (operation < M) {
                return narrow(operation, a, b);
            }
            if (operation < VDIVU) {
                return average(operation, a, b);
            }
            if (operation < VMULHU) {
                return quotient(operation, a, b);
            }
            if (operation < VWADDU) {
                return product(operation, a, b, d);
            }
            return operation < VWMULU ? wideSum(operation, a, b) : wideProduct(operation, a, b, d);
        }

        long compare(int operation, long a, long b) {
            long sa = signed(a, sew);
            long sb = signed(b, sew);
            switch (operation) {
                case VMSEQ: return bit(a == b);
                case VMSNE: return bit(a != b);
                case VMSLTU: return bit(a < b);
                case VMSLT: return bit(sa < sb);
                case VMSLEU: return bit(a <= b);
                case VMSLE: return bit(sa <= sb);
                case VMSGTU: return bit(a > b);
                case VMSGT: return bit(sa > sb);
                default: return 0;
            }
        }

        long withCarry(int operation, long a, long b, long carry) {
            return operation == VADC || operation == VMADC ? a + b + carry : a - b - carry;
        }

        long carryOut(int operation, long a, long b, long carry) {
            // A sum that is too great and a difference below 0 both have the bit behind the highest set.
            return (withCarry(operation, a, b, carry) >>> sew) & 1;
        }

        long logic(int operation, long a, long b) {
            switch (operation) {
                case VMANDN: return a & ~b;
                case VMAND: return a & b;
                case VMOR: return a | b;
                case VMXOR: return a ^ b;
                case VMORN: return a | ~b;
                case VMNAND: return ~(a & b);
                case VMNOR: return ~(a | b);
                case VMXNOR: return ~(a ^ b);
                default: return 0;
            }
        }

        long reduced(int operation, long total, long a) {
            switch (operation) {
                case VWREDSUMU: return total + a;
                case VWREDSUM: return total + signed(a, sew);
                case VREDSUM: return total + a;
                case VREDAND: return total & a;
                case VREDOR: return total | a;
                case VREDXOR: return total ^ a;
                case VREDMINU: return Math.min(total, a);
                case VREDMIN: return Math.min(signed(total, sew), signed(a, sew));
                case VREDMAXU: return Math.max(total, a);
                case VREDMAX: return Math.max(signed(total, sew), signed(a, sew));
                default: return total;
            }
        }

        private long simple(int operation, long a, long b) {
            switch (operation) {
                case VADD: return a + b;
                case VSUB: return a - b;
                case VRSUB: return b - a;
                case VMINU: return Math.min(a, b);
                case VMIN: return Math.min(signed(a, sew), signed(b, sew));
                case VMAXU: return Math.max(a, b);
                case VMAX: return Math.max(signed(a, sew), signed(b, sew));
                case VAND: return a & b;
                case VOR: return a | b;
                case VXOR: return a ^ b;
                default: return 0;
            }
        }

        private long saturatingOrShift(int operation, long a, long b) {
            int shift = (int) b & (sew - 1);
            long sa = signed(a, sew);
            long sb = signed(b, sew);
            switch (operation) {
                case VSADDU: return clipped(a + b, 0, greatest);
                case VSADD: return clipped(sa + sb, leastSigned, greatestSigned);
                case VSSUBU: return clipped(a - b, 0, greatest);
                case VSSUB: return clipped(sa - sb, leastSigned, greatestSigned);
                case VSLL: return a << shift;
                case VSMUL_OR_MOVE: return clipped(rounded(sa * sb, sew - 1), leastSigned, greatestSigned);
                case VSRL: return a >>> shift;
                case VSRA: return sa >> shift;
                case VSSRL: return rounded(a, shift);
                case VSSRA: return rounded(sa, shift);
                default: return 0;
            }
        }

        private long narrow(int operation, long a, long b) {
            int shift = (int) b & (2 * sew - 1);
            long sa = signed(a, 2 * sew);
            switch (operation) {
                case VNSRL: return a >>> shift;
                case VNSRA: return sa >> shift;
                case VNCLIPU: return clipped(rounded(a, shift), 0, greatest);
                case VNCLIP: return clipped(rounded(sa, shift), leastSigned, greatestSigned);
                default: return 0;
            }
        }

        private long average(int operation, long a, long b) {
            long sa = signed(a, sew);
            long sb = signed(b, sew);
            switch (operation) {
                case VAADDU: return rounded(a + b, 1);
                case VAADD: return rounded(sa + sb, 1);
                case VASUBU: return rounded(a - b, 1);
                case VASUB: return rounded(sa - sb, 1);
                default: return 0;
            }
        }

        private long quotient(int operation, long a, long b) {
            long sa = signed(a, sew);
            long sb = signed(b, sew);
            if (b == 0 || sb == 0) {
                return operation == VDIVU || operation == VDIV ? -1 : a;
            }
            // The least by -1 needs no care: in 64 bits its quotient has room, and is cut to itself.
            switch (operation) {
                case VDIVU: return a / b;
                case VDIV: return sa / sb;
                case VREMU: return a % b;
                case VREM: return sa % sb;
                default: return 0;
            }
        }

        private long product(int operation, long a, long b, long d) {
            long sa = signed(a, sew);
            long sb = signed(b, sew);
            switch (operation) {
                case VMULHU: return (a * b) >>> sew;
                case VMUL: return a * b;
                case VMULHSU: return (sa * b) >> sew;
                case VMULH: return (sa * sb) >> sew;
                case VMADD: return b * d + a;
                case VNMSUB: return a - b * d;
                case VMACC: return b * a + d;
                case VNMSAC: return d - b * a;
                default: return 0;
            }
        }

        private long wideSum(int operation, long a, long b) {
            long sa = signed(a, sew);
            long sb = signed(b, sew);
            switch (operation) {
                case VWADDU: return a + b;
                case VWADD: return sa + sb;
                case VWSUBU: return a - b;
                case VWSUB: return sa - sb;
                case VWADDU_W: return a + b;
                case VWADD_W: return a + sb;
                case VWSUBU_W: return a - b;
                case VWSUB_W: return a - sb;
                default: return 0;
            }
        }

        private long wideProduct(int operation, long a, long b, long d) {
            long sa = signed(a, sew);
            long sb = signed(b, sew);
            switch (operation) {
                case VWMULU: return a * b;
                case VWMULSU: return sa * b;
                case VWMUL: return sa * sb;
                case VWMACCU: return a * b + d;
                case VWMACC: return sa * sb + d;
                case VWMACCUS: return sa * b + d;
                case VWMACCSU: return a * sb + d;
                default: return 0;
            }
        }

        private long clipped(long value, long least, long most) {
            if (value >= least && value <= most) {
                return value;
            }
            now.saturated = 1;
            return value < least ? least : most;
        }

        private long rounded(long value, int shift) {
            if (shift < 1) {
                return value;
            }
            long half = 1L << (shift - 1);
            long kept = value >> shift;
            long lost = value & (2 * half - 1);
            switch (now.rounding) {
                case 0: return lost >= half ? kept + 1 : kept;
                case 1: return lost > half || (lost == half && (kept & 1) == 1) ? kept + 1 : kept;
                case 3: return lost != 0 ? kept | 1 : kept;
                default: return kept;
            }
        }

        private static long bit(boolean is) {
            return is ? 1 : 0;
        }
    }

    /** All of CODE_VECTOR but vset.. */
    private static final class Lanes {
        private final Registers now;
        private final Alu alu;
        private final Group target;
        private final Group left;
        private final Group right;
        private final Group mask;
        private int kind;
        private int operation;
        private int selector;
        private int length;
        private boolean isMasked;
        private boolean hasLeft;
        private boolean hasRight;
        private long second;
        private long offset;
        private int passed;

        Lanes(Registers now) {
            this.now = now;
            alu = new Alu(now);
            target = new Group(now);
            left = new Group(now);
            right = new Group(now);
            mask = new Group(now);
        }

        int execute(Instruction in) {
            kind = Decoder.kindOf(in);
            if (kind == UNKNOWN || now.type.isIll() || (now.start != 0 && startsAtZero())) {
                return ILLEGAL;
            }
            prepare(in);
            switch (kind) {
                case REDUCE:
                    return reduce(in, now.type.sew);
                case REDUCE_WIDE:
                    return reduce(in, 2 * now.type.sew);
                case COUNT:
                    return count(in);
                case READ_SCALAR:
                    return readScalar(in);
                case WRITE_SCALAR:
                    return writeScalar(in);
                default:
                    return coverGroups(in) && mayBeTarget() ? runElements() : ILLEGAL;
            }
        }

        private boolean startsAtZero() {
            switch (kind) {
                case REDUCE:
                case REDUCE_WIDE:
                case COUNT:
                case FIRST_BIT:
                case IOTA:
                case COMPRESS:
                    return true;
                default:
                    return false;
            }
        }

        private void prepare(Instruction in) {
            operation = in.operation();
            selector = in.rs1;
            length = now.length;
            isMasked = in.masked;
            alu.setWidth(now.type.sew);
            passed = 0;
            // Shifts ask for their number without sign, but its lowest five bits, all they use, are the same with it.
            long number = in.takesNumber() ? signed(in.rs1, 5) : now.scalar(in.rs1);
            second = number & ones(now.type.sew);
            offset = in.takesNumber() ? in.rs1 : now.scalar(in.rs1) & ones(32);
        }

        private boolean coverGroups(Instruction in) {
            int sew = now.type.sew;
            switch (kind) {
                case COMPARE:
                case CARRY_OUT:
                    return cover(in, MASK_EEW, sew, sew);
                case NARROW:
                    return cover(in, sew, 2 * sew, sew);
                case WIDEN:
                    return cover(in, 2 * sew, sew, sew);
                case WIDEN_WIDE:
                    return cover(in, 2 * sew, 2 * sew, sew);
                case EXTEND:
                    // vf4 of SEW 8 and 16, and vf2 of SEW 8, would read elements below 8 bits: no legal group has them.
                    return cover(in, sew, selector < 6 ? sew / 4 : sew / 2, 0);
                case GATHER_16:
                    return cover(in, sew, sew, 16);
                case MASK_LOGIC:
                    return cover(in, MASK_EEW, MASK_EEW, MASK_EEW);
                case FIRST_BIT:
                    return cover(in, MASK_EEW, MASK_EEW, 0);
                case IOTA:
                    return cover(in, sew, MASK_EEW, 0);
                case NUMBER:
                    return cover(in, sew, 0, 0);
                case COMPRESS:
                    return cover(in, sew, sew, MASK_EEW);
                case WHOLE_MOVE:
                    return coverWhole(in);
                default:
                    return cover(in, sew, sew, sew);
            }
        }

        /** The widths of vd, vs2 and vs1; 0 where an operand is none of the v registers. */
        private boolean cover(Instruction in, int ofTarget, int ofLeft, int ofRight) {
            hasLeft = ofLeft != 0;
            hasRight = ofRight != 0 && in.takesVector();
            target.cover(in.rd, ofTarget, now.type.eighthsFor(ofTarget));
            left.cover(in.rs2, ofLeft, now.type.eighthsFor(ofLeft));
            right.cover(in.rs1, ofRight, now.type.eighthsFor(ofRight));
            return target.isLegal() && (!hasLeft || left.isLegal()) && (!hasRight || right.isLegal());
        }

        private boolean coverWhole(Instruction in) {
            int eighths = WHOLE * (in.rs1 + 1);
            hasLeft = true;
            hasRight = false;
            target.cover(in.rd, now.type.sew, eighths);
            left.cover(in.rs2, now.type.sew, eighths);
            length = target.capacity();
            return target.isLegal() && left.isLegal();
        }

        private boolean mayBeTarget() {
            if (isMasked && target.meets(mask) && kind != COMPARE && kind != CARRY_OUT) {
                return false;
            }
            return mayTargetMeet(left, hasLeft) && mayTargetMeet(right, hasRight);
        }

        private boolean mayTargetMeet(Group source, boolean isThere) {
            if (!isThere) {
                return true;
            }
            return staysApart() ? !target.meets(source) : target.mayOverwrite(source);
        }

        private boolean staysApart() {
            switch (kind) {
                case SLIDE_UP:
                case SLIDE_ONE_UP:
                case GATHER:
                case GATHER_16:
                case COMPRESS:
                case FIRST_BIT:
                case IOTA:
                    return true;
                default:
                    return false;
            }
        }

        private int runElements() {
            if (now.start >= length) {
                return DONE;
            }
            if (kind == COMPRESS) {
                target.leaveTail(compressed(), false);
                return DONE;
            }
            for (int i = firstElement(); i < length; i++) {
                if (isActive(i)) {
                    target.put(i, valueAt(i));
                } else if (now.type.maskedOpen) {
                    target.leaveOpen(i);
                }
            }
            target.leaveTail(length, target.eew == MASK_EEW);
            return DONE;
        }

        private int firstElement() {
            if (kind == SLIDE_UP && offset > now.start) {
                return (int) Math.min(offset, length);
            }
            return now.start;
        }

        private boolean isActive(int i) {
            return !isMasked || kind == MERGE || kind == CARRY_IN || kind == CARRY_OUT || mask.element(i) == 1;
        }

        private long valueAt(int i) {
            switch (kind) {
                case COMPARE:
                    return alu.compare(operation, left.element(i), rightAt(i));
                case CARRY_IN:
                    return alu.withCarry(operation, left.element(i), rightAt(i), mask.element(i));
                case CARRY_OUT:
                    return alu.carryOut(operation, left.element(i), rightAt(i), isMasked ? mask.element(i) : 0);
                case MERGE:
                    return !isMasked || mask.element(i) == 1 ? rightAt(i) : left.element(i);
                case EXTEND:
                    return (selector & 1) == 0 ? left.element(i) : signed(left.element(i), left.eew);
                case MASK_LOGIC:
                    return alu.logic(operation, left.element(i), right.element(i));
                case FIRST_BIT:
                    return aroundFirstBit(left.element(i) == 1);
                case IOTA:
                    return bitsBefore(left.element(i) == 1);
                case NUMBER:
                    return i;
                case PLAIN:
                case NARROW:
                case WIDEN:
                case WIDEN_WIDE:
                    return alu.result(operation, left.element(i), rightAt(i), target.element(i));
                default:
                    return movedTo(i);
            }
        }

        private long rightAt(int i) {
            return hasRight ? right.element(i) : second;
        }

        private long movedTo(int i) {
            switch (kind) {
                case SLIDE_UP:
                    return leftAt(i - offset);
                case SLIDE_DOWN:
                    return leftAt(i + offset);
                case SLIDE_ONE_UP:
                    return i == 0 ? second : left.element(i - 1);
                case SLIDE_ONE_DOWN:
                    return i == length - 1 ? second : left.element(i + 1);
                case GATHER:
                case GATHER_16:
                    return leftAt(hasRight ? right.element(i) : offset);
                default:
                    return left.element(i);
            }
        }

        private long leftAt(long i) {
            return i >= 0 && i < now.type.most ? left.element((int) i) : 0;
        }

        private long bitsBefore(boolean isSet) {
            int before = passed;
            if (isSet) {
                passed++;
            }
            return before;
        }

        private long aroundFirstBit(boolean isSet) {
            boolean isAhead = bitsBefore(isSet) == 0;
            switch (selector) {
                case 1: return isAhead && !isSet ? 1 : 0;
                case 2: return isAhead && isSet ? 1 : 0;
                default: return isAhead ? 1 : 0;
            }
        }

        private int compressed() {
            int reached = 0;
            for (int i = 0; i < length; i++) {
                if (right.element(i) == 1) {
                    target.put(reached, left.element(i));
                    reached++;
                }
            }
            return reached;
        }

        private int reduce(Instruction in, int eew) {
            left.cover(in.rs2, now.type.sew, now.type.eighths);
            right.cover(in.rs1, eew, WHOLE);
            target.cover(in.rd, eew, WHOLE);
            if (eew > MOST_EEW || !left.isLegal()) {
                return ILLEGAL;
            }
            if (length == 0) {
                return DONE;
            }
            long total = right.element(0);
            for (int i = 0; i < length; i++) {
                if (isActive(i)) {
                    total = alu.reduced(operation, total, left.element(i));
                }
            }
            target.put(0, total);
            target.leaveTail(1, false);
            return DONE;
        }

        private int count(Instruction in) {
            left.cover(in.rs2, MASK_EEW, WHOLE);
            int firstSet = -1;
            int set = 0;
            for (int i = 0; i < length; i++) {
                if (isActive(i) && left.element(i) == 1) {
                    firstSet = set == 0 ? i : firstSet;
                    set++;
                }
            }
            now.putScalar(in.rd, selector == 16 ? set : firstSet);
            return DONE;
        }

        private int readScalar(Instruction in) {
            left.cover(in.rs2, now.type.sew, WHOLE);
            now.putScalar(in.rd, (int) signed(left.element(0), now.type.sew));
            return DONE;
        }

        private int writeScalar(Instruction in) {
            target.cover(in.rd, now.type.sew, WHOLE);
            if (now.start < length) {
                target.put(0, second);
                target.leaveTail(1, false);
            }
            return DONE;
        }
    }

    /** Loads and stores. */
    private static final class Port {
        private final Registers now;
        private final Memory memory;
        private final Group data;
        private final Group index;
        private final Group mask;
        private int base;
        private int stride;
        private int length;
        private boolean isStore;
        private boolean isMasked;
        private boolean isIndexed;
        private boolean isFirstOnly;
        private boolean isMaskBytes;
        int trapAddress;

        Port(Registers now, Memory memory) {
            this.now = now;
            this.memory = memory;
            data = new Group(now);
            index = new Group(now);
            mask = new Group(now);
        }

        int execute(Instruction in) {
            int eew = widthOf(in.form);
            boolean isWider = ((in.bits >>> 28) & 1) == 1;
            if (eew == 0 || isWider) {
                return ILLEGAL;
            }
            prepare(in, eew);
            return cover(in, eew) ? transfer() : ILLEGAL;
        }

        private static int widthOf(int form) {
            switch (form) {
                case 0: return 8;
                case 5: return 16;
                case 6: return 32;
                default: return 0;
            }
        }

        private void prepare(Instruction in, int eew) {
            base = now.scalar(in.rs1);
            stride = eew / 8;
            length = now.length;
            isStore = in.code == CODE_STORE;
            isMasked = in.masked;
            isIndexed = false;
            isFirstOnly = false;
            isMaskBytes = false;
        }

        private boolean cover(Instruction in, int eew) {
            int fields = in.bits >>> 29;
            int way = (in.bits >>> 26) & 3;
            if (way == 0 && in.rs2 == 8) {
                return coverWhole(in, eew, fields + 1);
            }
            if (fields != 0 || now.type.isIll()) {
                return false;
            }
            switch (way) {
                case 0:
                    return coverUnit(in, eew);
                case 2:
                    stride = now.scalar(in.rs2);
                    return coverPlain(in, eew);
                default:
                    return coverIndexed(in, eew);
            }
        }

        private boolean coverWhole(Instruction in, int eew, int registers) {
            boolean isPower = registers == 1 || registers == 2 || registers == 4 || registers == 8;
            if (!isPower || isMasked || (isStore && eew != 8)) {
                return false;
            }
            data.cover(in.rd, eew, WHOLE * registers);
            length = data.capacity();
            return data.isLegal();
        }

        private boolean coverUnit(Instruction in, int eew) {
            switch (in.rs2) {
                case 0:
                    return coverPlain(in, eew);
                case 11:
                    data.cover(in.rd, 8, WHOLE);
                    length = (now.length + 7) / 8;
                    isMaskBytes = true;
                    return eew == 8 && !isMasked;
                case 16:
                    isFirstOnly = true;
                    return !isStore && coverPlain(in, eew);
                default:
                    return false;
            }
        }

        private boolean coverPlain(Instruction in, int eew) {
            data.cover(in.rd, eew, now.type.eighthsFor(eew));
            return data.isLegal() && mayBeTarget();
        }

        private boolean coverIndexed(Instruction in, int eew) {
            isIndexed = true;
            index.cover(in.rs2, eew, now.type.eighthsFor(eew));
            boolean isDataRight = coverPlain(in, now.type.sew);
            return isDataRight && index.isLegal() && (isStore || data.mayOverwrite(index));
        }

        private boolean mayBeTarget() {
            return isStore || !isMasked || !data.meets(mask);
        }

        private int transfer() {
            if (now.start >= length) {
                return DONE;
            }
            for (int i = now.start; i < length; i++) {
                if (isMasked && mask.element(i) == 0) {
                    passOver(i);
                } else if (memory.admits(addressOf(i), data.eew / 8)) {
                    move(i, addressOf(i));
                } else if (isFirstOnly && i > 0) {
                    now.length = i;
                    length = i;
                    break;
                } else {
                    now.start = i;
                    trapAddress = addressOf(i);
                    return TRAP;
                }
            }
            if (!isStore) {
                data.leaveTail(length, isMaskBytes);
            }
            return DONE;
        }

        private void passOver(int i) {
            if (!isStore && now.type.maskedOpen) {
                data.leaveOpen(i);
            }
        }

        private int addressOf(int i) {
            return base + (isIndexed ? (int) index.element(i) : i * stride);
        }

        private void move(int i, int address) {
            int bytes = data.eew / 8;
            if (isStore) {
                memory.store(address, bytes, data.element(i));
            } else {
                data.put(i, memory.load(address, bytes));
            }
        }
    }
}
