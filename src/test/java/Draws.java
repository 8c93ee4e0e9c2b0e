import java.math.BigInteger;

/** The slight draws, told once more from the document with numbers that do not wrap by themselves. */
final class Draws {
    private static final BigInteger ALL = BigInteger.ONE.shiftLeft(64);
    private static final BigInteger STEP = new BigInteger("9E3779B97F4A7C15", 16);
    private static final BigInteger TIMES = new BigInteger("BF58476D1CE4E5B9", 16);

    private Draws() {
    }

    /** What is more on ON, from -n to n. */
    static int of(long seed, int note, int n) {
        BigInteger z = BigInteger.valueOf(seed).add(BigInteger.valueOf(note + 1).multiply(STEP)).mod(ALL);
        z = z.xor(z.shiftRight(30)).multiply(TIMES).mod(ALL);
        z = z.xor(z.shiftRight(27));
        return z.shiftRight(33).mod(BigInteger.valueOf(2 * n + 1)).intValue() - n;
    }
}
