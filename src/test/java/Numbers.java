import java.math.BigInteger;

/** What single elements become, in numbers without bounds. */
final class Numbers {
    private static final BigInteger ONE = BigInteger.ONE;

    int sew;
    int vxrm;
    boolean saturated;

    /** u2, u1, ud: elements of vs2, the second operand and vd, without sign; w2 is the width of vs2's. */
    long due(String name, long u2, long u1, long ud, int w2) {
        BigInteger a = BigInteger.valueOf(u2);
        BigInteger b = BigInteger.valueOf(u1);
        BigInteger d = BigInteger.valueOf(ud);
        BigInteger sa = signed(a, w2);
        BigInteger sb = signed(b, sew);
        return pick(name, a, b, d, sa, sb).longValue();
    }

    private BigInteger pick(String name, BigInteger a, BigInteger b, BigInteger d, BigInteger sa, BigInteger sb) {
        int shift = b.mod(BigInteger.valueOf(sew)).intValue();
        int wide = b.mod(BigInteger.valueOf(2 * sew)).intValue();
        BigInteger half = ONE.shiftLeft(sew - 1);
        switch (name) {
            case "vadd": return a.add(b);
            case "vsub": return a.subtract(b);
            case "vrsub": return b.subtract(a);
            case "vand": return a.and(b);
            case "vor": return a.or(b);
            case "vxor": return a.xor(b);
            case "vminu": return a.min(b);
            case "vmin": return sa.min(sb);
            case "vmaxu": return a.max(b);
            case "vmax": return sa.max(sb);
            case "vsll": return a.shiftLeft(shift);
            case "vsrl": return a.shiftRight(shift);
            case "vsra": return sa.shiftRight(shift);
            case "vmul": return a.multiply(b);
            case "vmulh": return sa.multiply(sb).shiftRight(sew);
            case "vmulhu": return a.multiply(b).shiftRight(sew);
            case "vmulhsu": return sa.multiply(b).shiftRight(sew);
            case "vdivu": return b.signum() == 0 ? ONE.negate() : a.divide(b);
            case "vdiv": return b.signum() == 0 ? ONE.negate() : sa.divide(sb);
            case "vremu": return b.signum() == 0 ? a : a.remainder(b);
            case "vrem": return b.signum() == 0 ? sa : sa.remainder(sb);
            case "vmacc": return d.add(a.multiply(b));
            case "vnmsac": return d.subtract(a.multiply(b));
            case "vmadd": return d.multiply(b).add(a);
            case "vnmsub": return a.subtract(d.multiply(b));
            case "vmseq": return bit(a.equals(b));
            case "vmsne": return bit(!a.equals(b));
            case "vmsltu": return bit(a.compareTo(b) < 0);
            case "vmslt": return bit(sa.compareTo(sb) < 0);
            case "vmsleu": return bit(a.compareTo(b) <= 0);
            case "vmsle": return bit(sa.compareTo(sb) <= 0);
            case "vmsgtu": return bit(a.compareTo(b) > 0);
            case "vmsgt": return bit(sa.compareTo(sb) > 0);
            case "vsaddu": return within(a.add(b), false);
            case "vsadd": return within(sa.add(sb), true);
            case "vssubu": return within(a.subtract(b), false);
            case "vssub": return within(sa.subtract(sb), true);
            case "vaaddu": return rounded(a.add(b), 1);
            case "vaadd": return rounded(sa.add(sb), 1);
            case "vasubu": return rounded(a.subtract(b), 1);
            case "vasub": return rounded(sa.subtract(sb), 1);
            case "vssrl": return rounded(a, shift);
            case "vssra": return rounded(sa, shift);
            case "vsmul":
                if (sa.equals(half.negate()) && sb.equals(half.negate())) {
                    saturated = true;
                    return half.subtract(ONE);
                }
                return rounded(sa.multiply(sb), sew - 1);
            case "vnsrl": return a.shiftRight(wide);
            case "vnsra": return sa.shiftRight(wide);
            case "vnclipu": return within(rounded(a, wide), false);
            case "vnclip": return within(rounded(sa, wide), true);
            case "vwaddu":
            case "vwaddu.w": return a.add(b);
            case "vwadd":
            case "vwadd.w": return sa.add(sb);
            case "vwsubu":
            case "vwsubu.w": return a.subtract(b);
            case "vwsub":
            case "vwsub.w": return sa.subtract(sb);
            case "vwmulu": return a.multiply(b);
            case "vwmul": return sa.multiply(sb);
            case "vwmulsu": return sa.multiply(b);
            case "vwmaccu": return a.multiply(b).add(d);
            case "vwmacc": return sa.multiply(sb).add(d);
            case "vwmaccsu": return a.multiply(sb).add(d);
            case "vwmaccus": return sa.multiply(b).add(d);
            case "vzext": return a;
            case "vsext": return sa;
            default: throw new IllegalArgumentException(name);
        }
    }

    static BigInteger signed(BigInteger value, int bits) {
        return value.testBit(bits - 1) ? value.subtract(ONE.shiftLeft(bits)) : value;
    }

    private static BigInteger bit(boolean is) {
        return is ? ONE : BigInteger.ZERO;
    }

    private BigInteger within(BigInteger value, boolean isSigned) {
        BigInteger least = isSigned ? ONE.shiftLeft(sew - 1).negate() : BigInteger.ZERO;
        BigInteger most = (isSigned ? ONE.shiftLeft(sew - 1) : ONE.shiftLeft(sew)).subtract(ONE);
        if (value.compareTo(least) < 0 || value.compareTo(most) > 0) {
            saturated = true;
        }
        return value.max(least).min(most);
    }

    private BigInteger rounded(BigInteger value, int shift) {
        BigInteger unit = ONE.shiftLeft(shift);
        BigInteger lost = value.mod(unit);
        BigInteger down = value.subtract(lost).divide(unit);
        int side = lost.shiftLeft(1).compareTo(unit);
        boolean isOdd = down.testBit(0);
        boolean up;
        switch (vxrm) {
            case 0: up = side >= 0; break;
            case 1: up = side > 0 || side == 0 && isOdd; break;
            case 2: up = false; break;
            default: up = lost.signum() != 0 && !isOdd; break;
        }
        return up ? down.add(ONE) : down;
    }
}
