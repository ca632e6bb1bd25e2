import java.util.ArrayList;
import java.util.List;
import java.util.Map;
import java.util.TreeMap;

/**
 * The whole document once more, reckoned the slow way: what every element of a destination becomes is asked for it alone,
 * of a copy of the registers that was taken ahead of the instruction.
 */
final class Model {
    private static final int GENERAL = 0xFC00707F;
    private static final int VS1 = 0x000F8000;
    private static final int VS2 = 0x01F00000;
    private static final int VM = 0x02000000;
    private static final List<Entry> ENTRIES = entries();

    final int[] x = new int[32];
    final boolean[] shut = new boolean[16];
    final int[] state = new int[10];
    Rows v = new Rows();
    long choices;

    private final byte[] memory = new byte[1024];
    private final Numbers numbers = new Numbers();
    private Rows old;
    private int word;

    Model() {
        state[1] = 1 << 31;
    }

    int step(int told) {
        word = told;
        old = v.copy();
        int answer;
        try {
            answer = execute();
        } catch (Refused e) {
            v = old;
            answer = 1;
        }
        state[6 + answer]++;
        if (answer == 0) {
            state[2] = 0;
        }
        return answer;
    }

    int sum() {
        int total = 0;
        for (int k = 0; k < 128; k++) {
            total = total * 31 + v.word(k);
        }
        return total;
    }

    int word(int k) {
        return (int) load(4 * k, 4);
    }

    void setWord(int k, int value) {
        store(4 * k, 4, value);
    }

    private int sew() {
        return 8 << (state[1] >> 3 & 7);
    }

    private int eighths() {
        return Setup.eighthsOfCode(state[1] & 7);
    }

    // The instruction's fields.

    private int field(int from, int bits) {
        return word >>> from & (1 << bits) - 1;
    }

    private int vd() {
        return field(7, 5);
    }

    private int one() {
        return field(15, 5);
    }

    private int two() {
        return field(20, 5);
    }

    private boolean isMasked() {
        return field(25, 1) == 0;
    }

    private int execute() {
        switch (field(0, 7)) {
            case 0x07:
            case 0x27:
                return transfer();
            case 0x57:
                break;
            default:
                throw new Refused();
        }
        if (field(12, 3) == 7) {
            grant();
            return 0;
        }
        for (Entry entry : ENTRIES) {
            if ((word & entry.mask) == entry.bits) {
                need(state[1] >= 0);
                arithmetic(entry);
                return 0;
            }
        }
        throw new Refused();
    }

    private static void need(boolean is) {
        if (!is) {
            throw new Refused();
        }
    }

    // vsetvli, vsetivli, vsetvl

    private void grant() {
        boolean isRegister = field(25, 7) == 64;
        boolean isNumber = field(30, 2) == 3;
        need(field(31, 1) == 0 || isRegister || isNumber);
        int told = isRegister ? x[two()] : isNumber ? field(20, 10) : field(20, 11);
        int before = state[5];
        state[1] = told;
        int sew = sew();
        boolean isIll = (told & ~255) != 0 || sew > 32 || eighths() == 0 || 8 * sew > 32 * eighths();
        boolean stays = !isNumber && one() == 0 && vd() == 0;
        if (!isIll) {
            state[5] = eighths() * 128 / sew / 8;
            isIll = stays && before != state[5];
        }
        if (isIll) {
            state[0] = 0;
            state[1] = 1 << 31;
            state[5] = 0;
        } else if (!stays) {
            long asked = isNumber ? one() : one() == 0 ? Long.MAX_VALUE : Integer.toUnsignedLong(x[one()]);
            state[0] = granted(asked, state[5]);
        }
        putX(vd(), state[0]);
    }

    private int granted(long asked, int most) {
        if (asked <= most) {
            return (int) asked;
        }
        if (asked / 2 >= most) {
            return most;
        }
        int least = 0;
        while (2L * least < asked) {
            least++;
        }
        return least + (int) Long.remainderUnsigned(choices, most - least + 1);
    }

    private void putX(int k, int value) {
        x[k] = k == 0 ? 0 : value;
    }

    // Groups

    private int eighthsOf(int eew) {
        return eew == 1 ? 8 : eighths() * eew / sew();
    }

    private static int registersOf(int eighths) {
        return Math.max(1, eighths / 8);
    }

    private Group group(int first, int eew, int eighths) {
        need(eew == 1 || eew == 8 || eew == 16 || eew == 32);
        need(eighths <= 64 && eighths >= 1);
        need(first % registersOf(eighths) == 0);
        return new Group(first, eew, eighths);
    }

    private Group group(int first, int eew) {
        return group(first, eew, eighthsOf(eew));
    }

    private void mayReplace(Group target, Group source, boolean isApart) {
        boolean hasOne = false;
        for (int k = 0; k < registersOf(source.eighths); k++) {
            int register = source.first + k;
            hasOne |= register >= target.first && register <= target.last();
        }
        if (!hasOne) {
            return;
        }
        need(!isApart);
        boolean isLower = target.eew < source.eew && target.first == source.first;
        boolean isHigher = target.eew > source.eew && source.eighths >= 8 && target.last() == source.last();
        need(target.eew == source.eew || isLower || isHigher);
    }

    // Arithmetic

    private void arithmetic(Entry e) {
        boolean startsAtZero = e.isReduction() || e.is("vcpop vfirst vmsbf vmsif vmsof viota vcompress");
        need(!startsAtZero || state[2] == 0);
        if (e.isReduction()) {
            reduction(e);
        } else if (e.is("vcpop vfirst")) {
            count(e);
        } else if (e.name.equals("vmv.x.s")) {
            putX(vd(), (int) old.signed(two(), sew(), 0));
        } else if (e.name.equals("vmv.s.x")) {
            single(x[one()], sew());
        } else if (e.stem.matches("vmv[1248]r")) {
            whole(e.stem.charAt(3) - '0');
        } else {
            elements(e);
        }
    }

    private void single(long value, int eew) {
        if (state[2] >= state[0]) {
            return;
        }
        v.put(vd(), eew, 0, value);
        for (int i = 1; i < 128 / eew; i++) {
            tail(vd(), eew, i, false);
        }
    }

    private void tail(int register, int eew, int i, boolean isOfMask) {
        if (isOfMask || (state[1] & 64) != 0) {
            open(register, eew, i);
        }
    }

    private void open(int register, int eew, int i) {
        if ((choices & 1L << i % 64) != 0) {
            v.put(register, eew, i, -1);
        }
    }

    private boolean maskBit(int i) {
        return old.get(0, 1, i) == 1;
    }

    private boolean isOn(int i) {
        return !isMasked() || maskBit(i);
    }

    private void reduction(Entry e) {
        int eew = e.stem.startsWith("vw") ? 2 * sew() : sew();
        need(eew <= 32);
        group(two(), sew());
        if (state[0] == 0) {
            return;
        }
        numbers.sew = sew();
        long total = old.get(one(), eew, 0);
        for (int i = 0; i < state[0]; i++) {
            if (isOn(i)) {
                long unsigned = old.get(two(), sew(), i);
                long signed = old.signed(two(), sew(), i);
                total = e.stem.equals("vwredsum") ? total + signed
                    : e.stem.equals("vwredsumu") || e.stem.equals("vredsum") ? total + unsigned
                    : numbers.due("v" + e.stem.substring(4), total, unsigned, 0, sew()) & (1L << eew) - 1;
            }
        }
        single(total, eew);
    }

    private void count(Entry e) {
        List<Integer> found = new ArrayList<>();
        for (int i = 0; i < state[0]; i++) {
            if (isOn(i) && old.get(two(), 1, i) == 1) {
                found.add(i);
            }
        }
        putX(vd(), e.stem.equals("vcpop") ? found.size() : found.isEmpty() ? -1 : found.get(0));
    }

    private void whole(int registers) {
        need(vd() % registers == 0 && two() % registers == 0);
        for (int i = state[2]; i < registers * 128 / sew(); i++) {
            v.put(vd(), sew(), i, old.get(two(), sew(), i));
        }
    }

    private void elements(Entry e) {
        int sew = sew();
        boolean isCompare = e.is("vmseq vmsne vmsleu vmsle vmsltu vmslt vmsgtu vmsgt");
        boolean isCarryOut = e.is("vmadc vmsbc");
        boolean isFirst = e.is("vmsbf vmsif vmsof");
        boolean isMaskResult = isCompare || isCarryOut || isFirst || e.form.equals("mm");
        boolean isWide = e.stem.startsWith("vw");
        Group target = group(vd(), isMaskResult ? 1 : isWide ? 2 * sew : sew);
        List<Group> sources = new ArrayList<>();
        if (!e.is("vid") && !e.name.startsWith("vmv.v")) {
            int eew = isFirst || e.form.equals("mm") || e.is("viota") ? 1
                : e.form.startsWith("w") ? 2 * sew : e.form.equals("vf2") ? sew / 2 : e.form.equals("vf4") ? sew / 4 : sew;
            sources.add(group(two(), eew));
        }
        if (e.takesVs1()) {
            int eew = e.form.equals("mm") || e.is("vcompress") ? 1 : e.is("vrgatherei16") ? 16 : sew;
            sources.add(group(one(), eew));
        }
        need(!isMasked() || target.first != 0 || isCompare || isCarryOut);
        boolean isApart = isFirst || e.is("viota vslideup vslide1up vrgather vrgatherei16 vcompress");
        for (Group source : sources) {
            mayReplace(target, source, isApart);
        }
        if (state[2] >= state[0]) {
            return;
        }
        boolean allActive = isCarryOut || e.is("vmerge vadc vsbc");
        for (int i = state[2]; i < target.count(); i++) {
            element(e, target, i, isMaskResult, allActive || isOn(i));
        }
    }

    private void element(Entry e, Group target, int i, boolean isMaskResult, boolean isActive) {
        int limit = e.is("vcompress") ? chosenOnes().size() : state[0];
        if (i >= limit) {
            tail(target.first, target.eew, i, isMaskResult);
        } else if (e.is("vslideup") && i < offset(e)) {
            return;
        } else if (isActive) {
            v.put(target.first, target.eew, i, value(e, target, i));
        } else if ((state[1] & 128) != 0) {
            open(target.first, target.eew, i);
        }
    }

    private List<Integer> chosenOnes() {
        List<Integer> all = new ArrayList<>();
        for (int i = 0; i < state[0]; i++) {
            if (old.get(one(), 1, i) == 1) {
                all.add(i);
            }
        }
        return all;
    }

    private long offset(Entry e) {
        return e.form.endsWith("i") ? one() : Integer.toUnsignedLong(x[one()]);
    }

    /** Element i of vs1, or x[rs1], or the number, of a width and without sign. */
    private long second(Entry e, int i) {
        int sew = sew();
        if (e.takesVs1()) {
            return old.get(one(), e.form.equals("mm") ? 1 : sew, i);
        }
        boolean isNumber = e.form.startsWith("vi") || e.form.startsWith("wi") || e.form.equals("v.i");
        boolean isShift = e.is("vsll vsrl vsra vssrl vssra vnsrl vnsra vnclipu vnclip");
        int number = isNumber ? isShift || one() < 16 ? one() : one() - 32 : x[one()];
        return number & (1L << sew) - 1;
    }

    private long moved(long i) {
        return i >= state[5] ? 0 : old.get(two(), sew(), (int) i);
    }

    private long value(Entry e, Group target, int i) {
        int sew = sew();
        long most = (1L << sew) - 1;
        switch (e.stem) {
            case "vid": return i;
            case "viota": return bitsAhead(i);
            case "vmsbf": return bitsAhead(i) == 0 && old.get(two(), 1, i) == 0 ? 1 : 0;
            case "vmsif": return bitsAhead(i) == 0 ? 1 : 0;
            case "vmsof": return bitsAhead(i) == 0 && old.get(two(), 1, i) == 1 ? 1 : 0;
            case "vslideup": return moved(i - offset(e));
            case "vslidedown": return moved(i + offset(e));
            case "vslide1up": return i == 0 ? x[one()] : moved(i - 1);
            case "vslide1down": return i == state[0] - 1 ? x[one()] : moved(i + 1);
            case "vrgather": return moved(e.takesVs1() ? second(e, i) : offset(e));
            case "vrgatherei16": return moved(old.get(one(), 16, i));
            case "vcompress": return moved(chosenOnes().get(i));
            case "vmv": return second(e, i);
            case "vmerge": return maskBit(i) ? second(e, i) : old.get(two(), sew, i);
            case "vadc": return old.get(two(), sew, i) + second(e, i) + (maskBit(i) ? 1 : 0);
            case "vsbc": return old.get(two(), sew, i) - second(e, i) - (maskBit(i) ? 1 : 0);
            case "vmadc": return old.get(two(), sew, i) + second(e, i) + carry(i) > most ? 1 : 0;
            case "vmsbc": return old.get(two(), sew, i) < second(e, i) + carry(i) ? 1 : 0;
            default: return e.form.equals("mm") ? logic(e.stem, i) : reckoned(e, target, i);
        }
    }

    private long carry(int i) {
        return isMasked() && maskBit(i) ? 1 : 0;
    }

    private int bitsAhead(int i) {
        int count = 0;
        for (int k = 0; k < i; k++) {
            count += isOn(k) && old.get(two(), 1, k) == 1 ? 1 : 0;
        }
        return count;
    }

    private long logic(String stem, int i) {
        boolean a = old.get(two(), 1, i) == 1;
        boolean b = old.get(one(), 1, i) == 1;
        boolean is;
        switch (stem) {
            case "vmand": is = a && b; break;
            case "vmnand": is = !a || !b; break;
            case "vmandn": is = a && !b; break;
            case "vmxor": is = a != b; break;
            case "vmor": is = a || b; break;
            case "vmnor": is = !a && !b; break;
            case "vmorn": is = a || !b; break;
            case "vmxnor": is = a == b; break;
            default: throw new IllegalStateException(stem);
        }
        return is ? 1 : 0;
    }

    private long reckoned(Entry e, Group target, int i) {
        int sew = sew();
        boolean isWideSource = e.form.startsWith("w");
        int eew = isWideSource ? 2 * sew : e.form.equals("vf2") ? sew / 2 : e.form.equals("vf4") ? sew / 4 : sew;
        String name = isWideSource && e.stem.startsWith("vw") ? e.stem + ".w" : e.stem;
        numbers.sew = sew;
        numbers.vxrm = state[3];
        numbers.saturated = false;
        long before = old.get(target.first, target.eew, i);
        long second = e.form.startsWith("vf") ? 0 : second(e, i);
        long value = numbers.due(name, old.get(two(), eew, i), second, before, eew);
        state[4] |= numbers.saturated ? 1 : 0;
        return value;
    }

    // Loads and stores

    private int transfer() {
        int width = field(12, 3);
        need(width == 0 || width == 5 || width == 6);
        need(field(28, 1) == 0);
        int eew = width == 0 ? 8 : width == 5 ? 16 : 32;
        boolean isStore = field(0, 7) == 0x27;
        int way = field(26, 2);
        if (way == 0 && two() == 8) {
            return wholeTransfer(eew, isStore);
        }
        need(state[1] >= 0 && field(29, 3) == 0);
        if (way == 0 && two() == 11) {
            need(!isMasked() && eew == 8);
            return run(new Group(vd(), 8, 8), null, 1, isStore, (state[0] + 7) / 8, true);
        }
        boolean isIndexed = way == 1 || way == 3;
        need(way != 0 || two() == 0 || two() == 16 && !isStore);
        Group data = group(vd(), isIndexed ? sew() : eew);
        Group index = isIndexed ? group(two(), eew) : null;
        if (!isStore) {
            need(!isMasked() || data.first != 0);
            if (isIndexed) {
                mayReplace(data, index, false);
            }
        }
        return run(data, index, way == 2 ? x[two()] : eew / 8, isStore, state[0], false);
    }

    private int wholeTransfer(int eew, boolean isStore) {
        int registers = field(29, 3) + 1;
        need(Integer.bitCount(registers) == 1 && !isMasked() && (!isStore || eew == 8));
        Group data = group(vd(), eew, 8 * registers);
        return run(data, null, eew / 8, isStore, data.count(), false);
    }

    private int run(Group data, Group index, int stride, boolean isStore, int length, boolean isOfMask) {
        boolean isFirstOnly = field(26, 2) == 0 && two() == 16;
        int bytes = data.eew / 8;
        if (state[2] >= length) {
            return 0;
        }
        int end = length;
        for (int i = state[2]; i < end; i++) {
            if (!isOn(i)) {
                if (!isStore && (state[1] & 128) != 0) {
                    open(data.first, data.eew, i);
                }
                continue;
            }
            long step = index == null ? (long) i * stride : old.get(index.first, index.eew, i);
            long address = x[one()] + step & 0xFFFFFFFFL;
            if (!isThere(address, bytes)) {
                if (!isFirstOnly || i == 0) {
                    state[2] = i;
                    state[9] = (int) address;
                    return 2;
                }
                state[0] = i;
                end = i;
            } else {
                move(data, i, (int) address, isStore);
            }
        }
        for (int i = end; i < data.count() && !isStore; i++) {
            tail(data.first, data.eew, i, isOfMask);
        }
        return 0;
    }

    private boolean isThere(long address, int bytes) {
        for (long at = address; at < address + bytes; at++) {
            if (at >= 1024 || shut[(int) at / 64]) {
                return false;
            }
        }
        return true;
    }

    private void move(Group data, int i, int address, boolean isStore) {
        if (isStore) {
            store(address, data.eew / 8, old.get(data.first, data.eew, i));
        } else {
            v.put(data.first, data.eew, i, load(address, data.eew / 8));
        }
    }

    private long load(int address, int bytes) {
        long value = 0;
        for (int k = bytes - 1; k >= 0; k--) {
            value = value * 256 + (memory[address + k] & 255);
        }
        return value;
    }

    private void store(int address, int bytes, long value) {
        for (int k = 0; k < bytes; k++) {
            memory[address + k] = (byte) (value >> 8 * k);
        }
    }

    // The table of arithmetic words

    static List<Entry> entries() {
        List<Entry> all = new ArrayList<>();
        for (Map.Entry<String, Integer> row : new TreeMap<>(Words.table()).entrySet()) {
            all.add(new Entry(row.getKey(), row.getValue()));
        }
        return all;
    }

    /** What an arithmetic word has, in the bits of its mask. */
    static final class Entry {
        final String name;
        final String stem;
        final String form;
        final int bits;
        final int mask;

        Entry(String name, int base) {
            this.name = name;
            stem = name.substring(0, name.indexOf('.'));
            form = name.substring(name.indexOf('.') + 1);
            boolean isMove = name.startsWith("vmv.v");
            boolean needsOne = isMove || name.matches("vmv[1248]r.v|vmv.x.s|vmv.s.x|vmadc.v.|vmsbc.v.|vcompress.vm|.*[.]mm");
            boolean needsNone = form.matches("v[vxi]m");
            boolean fixesVs1 = form.matches("m|x.s|vf.") || name.matches("vmv[1248]r.v|vid.v");
            boolean fixesVs2 = isMove || name.matches("vmv.s.x|vid.v");
            bits = base | (needsOne ? VM : 0);
            mask = GENERAL | (fixesVs1 ? VS1 : 0) | (fixesVs2 ? VS2 : 0) | (needsOne || needsNone ? VM : 0);
        }

        boolean is(String stems) {
            for (String one : stems.split(" ")) {
                if (stem.equals(one)) {
                    return true;
                }
            }
            return false;
        }

        boolean isReduction() {
            return form.equals("vs");
        }

        boolean takesVs1() {
            return form.matches("vv|vvm|wv|mm|vm|v.v");
        }
    }

    private static final class Group {
        final int first;
        final int eew;
        final int eighths;

        Group(int first, int eew, int eighths) {
            this.first = first;
            this.eew = eew;
            this.eighths = eighths;
        }

        int last() {
            return first + registersOf(eighths) - 1;
        }

        int count() {
            return registersOf(eighths) * 128 / eew;
        }
    }

    /** The instruction is ILLEGAL. */
    private static final class Refused extends RuntimeException {
        private static final long serialVersionUID = 1;

        Refused() {
            super(null, null, false, false);
        }
    }
}
