import java.util.Arrays;
import java.util.HashMap;
import java.util.List;
import java.util.Map;

/** Instruction words by the manual's own texts, such as "vadd.vx v8, v16, x3, v0.t". */
final class Words {
    // name, bits 31 .. 26, the forms' letters behind the point
    private static final String[] OF_I = {
        "vadd 0 vv vx vi", "vsub 2 vv vx", "vrsub 3 vx vi", "vminu 4 vv vx", "vmin 5 vv vx", "vmaxu 6 vv vx",
        "vmax 7 vv vx", "vand 9 vv vx vi", "vor 10 vv vx vi", "vxor 11 vv vx vi", "vrgather 12 vv vx vi",
        "vrgatherei16 14 vv", "vslideup 14 vx vi", "vslidedown 15 vx vi", "vadc 16 vvm vxm vim",
        "vmadc 17 vv vx vi vvm vxm vim", "vsbc 18 vvm vxm", "vmsbc 19 vv vx vvm vxm", "vmerge 23 vvm vxm vim",
        "vmseq 24 vv vx vi", "vmsne 25 vv vx vi", "vmsltu 26 vv vx", "vmslt 27 vv vx", "vmsleu 28 vv vx vi",
        "vmsle 29 vv vx vi", "vmsgtu 30 vx vi", "vmsgt 31 vx vi", "vsaddu 32 vv vx vi", "vsadd 33 vv vx vi",
        "vssubu 34 vv vx", "vssub 35 vv vx", "vsll 37 vv vx vi", "vsmul 39 vv vx", "vsrl 40 vv vx vi",
        "vsra 41 vv vx vi", "vssrl 42 vv vx vi", "vssra 43 vv vx vi", "vnsrl 44 wv wx wi", "vnsra 45 wv wx wi",
        "vnclipu 46 wv wx wi", "vnclip 47 wv wx wi", "vwredsumu 48 vs", "vwredsum 49 vs",
    };
    private static final String[] OF_M = {
        "vredsum 0 vs", "vredand 1 vs", "vredor 2 vs", "vredxor 3 vs", "vredminu 4 vs", "vredmin 5 vs", "vredmaxu 6 vs",
        "vredmax 7 vs", "vaaddu 8 vv vx", "vaadd 9 vv vx", "vasubu 10 vv vx", "vasub 11 vv vx", "vslide1up 14 vx",
        "vslide1down 15 vx", "vcompress 23 vm", "vmandn 24 mm", "vmand 25 mm", "vmor 26 mm", "vmxor 27 mm",
        "vmorn 28 mm", "vmnand 29 mm", "vmnor 30 mm", "vmxnor 31 mm", "vdivu 32 vv vx", "vdiv 33 vv vx",
        "vremu 34 vv vx", "vrem 35 vv vx", "vmulhu 36 vv vx", "vmul 37 vv vx", "vmulhsu 38 vv vx", "vmulh 39 vv vx",
        "vmadd 41 vv vx", "vnmsub 43 vv vx", "vmacc 45 vv vx", "vnmsac 47 vv vx", "vwaddu 48 vv vx", "vwadd 49 vv vx",
        "vwsubu 50 vv vx", "vwsub 51 vv vx", "vwaddu 52 wv wx", "vwadd 53 wv wx", "vwsubu 54 wv wx", "vwsub 55 wv wx",
        "vwmulu 56 vv vx", "vwmulsu 58 vv vx", "vwmul 59 vv vx", "vwmaccu 60 vv vx", "vwmacc 61 vv vx", "vwmaccus 62 vx",
        "vwmaccsu 63 vv vx",
    };
    // These have two operands, vd (or rd) and vs2; name, bits 31 .. 26, bits 19 .. 15.
    private static final String[] OF_TWO = {
        "vmv.x.s 16 0", "vcpop.m 16 16", "vfirst.m 16 17", "vzext.vf4 18 4", "vsext.vf4 18 5", "vzext.vf2 18 6",
        "vsext.vf2 18 7", "vmsbf.m 20 1", "vmsof.m 20 2", "vmsif.m 20 3", "viota.m 20 16",
    };
    // The multiplies that add name their operands the other way round.
    private static final List<String> TURNED = List.of(
        "vmadd", "vnmsub", "vmacc", "vnmsac", "vwmaccu", "vwmacc", "vwmaccus", "vwmaccsu");
    private static final Map<String, Integer> TABLE = table();

    private Words() {
    }

    static int of(String text) {
        int gap = text.indexOf(' ');
        String name = text.substring(0, gap);
        String[] operands = text.substring(gap + 1).split(", *");
        int last = operands.length - 1;
        int vm = operands[last].equals("v0.t") ? 0 : 1;
        if (vm == 0) {
            operands = Arrays.copyOf(operands, last);
        }
        if (name.startsWith("vset")) {
            return length(name, operands);
        }
        if (operands.length > 1 && operands[1].startsWith("(")) {
            return memory(name, operands, vm);
        }
        return arithmetic(name, operands, vm);
    }

    static boolean knows(String name) {
        return TABLE.containsKey(name);
    }

    static int type(List<String> cells) {
        int bits = 0;
        for (String cell : cells) {
            switch (cell) {
                case "e16": bits |= 8; break;
                case "e32": bits |= 16; break;
                case "e64": bits |= 24; break;
                case "m2": bits |= 1; break;
                case "m4": bits |= 2; break;
                case "m8": bits |= 3; break;
                case "mf8": bits |= 5; break;
                case "mf4": bits |= 6; break;
                case "mf2": bits |= 7; break;
                case "ta": bits |= 64; break;
                case "ma": bits |= 128; break;
                case "e8": case "m1": case "tu": case "mu": break;
                default: throw new IllegalArgumentException(cell);
            }
        }
        return bits;
    }

    /** The words of arithmetic instructions by their names, all of their operands and vm being 0. */
    static Map<String, Integer> table() {
        Map<String, Integer> words = new HashMap<>();
        enter(words, OF_I, Asm.IVV, Asm.IVX);
        enter(words, OF_M, Asm.MVV, Asm.MVX);
        for (String row : OF_TWO) {
            String[] cells = row.split(" ");
            words.put(cells[0], Asm.op(Integer.parseInt(cells[1]), 0, 0, Integer.parseInt(cells[2]), Asm.MVV, 0));
        }
        words.put("vmv.v.v", Asm.op(23, 0, 0, 0, Asm.IVV, 0));
        words.put("vmv.v.x", Asm.op(23, 0, 0, 0, Asm.IVX, 0));
        words.put("vmv.v.i", Asm.op(23, 0, 0, 0, Asm.IVI, 0));
        words.put("vmv.s.x", Asm.op(16, 0, 0, 0, Asm.MVX, 0));
        words.put("vid.v", Asm.op(20, 0, 0, 17, Asm.MVV, 0));
        for (int count = 1; count <= 8; count *= 2) {
            words.put("vmv" + count + "r.v", Asm.op(39, 0, 0, count - 1, Asm.IVI, 0));
        }
        return words;
    }

    private static void enter(Map<String, Integer> words, String[] rows, int formV, int formX) {
        for (String row : rows) {
            String[] cells = row.split(" ");
            for (int k = 2; k < cells.length; k++) {
                String letters = cells[k];
                int form = letters.contains("x") ? formX : letters.contains("i") ? Asm.IVI : formV;
                words.put(cells[0] + "." + letters, Asm.op(Integer.parseInt(cells[1]), 0, 0, 0, form, 0));
            }
        }
    }

    private static int arithmetic(String name, String[] operands, int vm) {
        Integer entry = TABLE.get(name);
        if (entry == null) {
            throw new IllegalArgumentException(name);
        }
        String stem = name.substring(0, name.indexOf('.'));
        // Behind vd: vs2, then what stands in bits 19 .. 15.
        int[] rest = new int[operands.length - 1];
        for (int k = 0; k < rest.length; k++) {
            rest[k] = number(operands[k + 1]);
        }
        int word = entry | number(operands[0]) << 7;
        if (name.startsWith("vmv.v.") || name.equals("vmv.s.x")) {
            return word | vm << 25 | (rest[0] & 31) << 15;
        }
        if (rest.length == 0) {
            return word | vm << 25;
        }
        if (rest.length == 1) {
            return word | vm << 25 | rest[0] << 20;
        }
        boolean isTurned = TURNED.contains(stem);
        int vs2 = isTurned ? rest[1] : rest[0];
        int other = isTurned ? rest[0] : rest[1];
        boolean takesMask = rest.length == 3;
        return word | (takesMask ? 0 : vm) << 25 | vs2 << 20 | (other & 31) << 15;
    }

    private static int length(String name, String[] operands) {
        int rd = number(operands[0]);
        int second = number(operands[1]);
        if (name.equals("vsetvl")) {
            return Asm.vsetvl(rd, second, number(operands[2]));
        }
        int type = type(Arrays.asList(operands).subList(2, operands.length));
        return name.equals("vsetvli") ? Asm.vsetvli(rd, second, type) : Asm.vsetivli(rd, second, type);
    }

    /** vle8 vle8ff vlse8 vluxei8 vloxei8 vlm vl1re8 and their stores; all end with ".v". */
    private static int memory(String name, String[] operands, int vm) {
        boolean isStore = name.charAt(1) == 's';
        String way = name.substring(2, name.length() - 2);
        int v = number(operands[0]);
        int rs1 = number(operands[1]);
        int second = operands.length > 2 ? number(operands[2]) : 0;
        int word;
        if (way.equals("m")) {
            word = Asm.load(8, Asm.UNIT, vm, 11, rs1, v);
        } else if (Character.isDigit(way.charAt(0))) {
            int eew = isStore ? 8 : Integer.parseInt(way.substring(3));
            word = Asm.fields(Asm.load(eew, Asm.UNIT, vm, 8, rs1, v), way.charAt(0) - '1');
        } else if (way.startsWith("e")) {
            boolean isFirstOnly = way.endsWith("ff");
            int eew = Integer.parseInt(way.substring(1, way.length() - (isFirstOnly ? 2 : 0)));
            word = Asm.load(eew, Asm.UNIT, vm, isFirstOnly ? 16 : 0, rs1, v);
        } else if (way.startsWith("se")) {
            word = Asm.load(Integer.parseInt(way.substring(2)), Asm.STRIDED, vm, second, rs1, v);
        } else {
            int kind = way.startsWith("ux") ? Asm.UNORDERED : Asm.ORDERED;
            word = Asm.load(Integer.parseInt(way.substring(4)), kind, vm, second, rs1, v);
        }
        return isStore ? word | 0x20 : word;
    }

    private static int number(String operand) {
        String digits = operand.replace("(", "").replace(")", "");
        return Integer.parseInt(Character.isLetter(digits.charAt(0)) ? digits.substring(1) : digits);
    }
}
