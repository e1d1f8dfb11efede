import java.math.BigInteger;

/** What an instruction of rd rs rt gives, reckoned with whole numbers and cut to 32 bits at the end. */
final class Reckon {
    private static final BigInteger ROUND = BigInteger.TWO.pow(32);

    private Reckon() {
    }

    static int of(int number, int x, int y) {
        return whole(number, x, y).mod(ROUND).intValue();
    }

    static BigInteger signed(int value) {
        return BigInteger.valueOf(value);
    }

    static BigInteger unsigned(int value) {
        return BigInteger.valueOf(value).mod(ROUND);
    }

    private static BigInteger whole(int number, int x, int y) {
        BigInteger power = BigInteger.TWO.pow(Math.floorMod(y, 32));
        switch (number) {
            case Op.ADD: return signed(x).add(signed(y));
            case Op.SUB: return signed(x).subtract(signed(y));
            case Op.MUL: return signed(x).multiply(signed(y));
            case Op.AND: return unsigned(x).and(unsigned(y));
            case Op.OR: return unsigned(x).or(unsigned(y));
            case Op.XOR: return unsigned(x).xor(unsigned(y));
            case Op.SHL: return signed(x).multiply(power);
            case Op.SHR: return unsigned(x).divide(power);
            case Op.SAR: return signed(x).subtract(signed(x).mod(power)).divide(power);
            case Op.UDIV: return unsigned(x).divide(unsigned(y));
            case Op.UREM: return unsigned(x).mod(unsigned(y));
            case Op.SDIV: return withSign(signed(x).abs().divide(signed(y).abs()), x < 0 != y < 0);
            case Op.SREM: return withSign(signed(x).abs().mod(signed(y).abs()), x < 0);
            default: return compared(number, x, y) ? BigInteger.ONE : BigInteger.ZERO;
        }
    }

    private static BigInteger withSign(BigInteger size, boolean isNegative) {
        return isNegative ? size.negate() : size;
    }

    private static boolean compared(int number, int x, int y) {
        int bare = unsigned(x).compareTo(unsigned(y));
        int withSign = signed(x).compareTo(signed(y));
        switch (number) {
            case Op.EQ: return bare == 0;
            case Op.NE: return bare != 0;
            case Op.ULT: return bare < 0;
            case Op.ULE: return bare <= 0;
            case Op.SLT: return withSign < 0;
            case Op.SLE: return withSign <= 0;
            default: throw new IllegalArgumentException("no instruction of rd rs rt: " + number);
        }
    }
}
