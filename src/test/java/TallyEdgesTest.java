import java.lang.reflect.Constructor;
import java.lang.reflect.Field;
import java.lang.reflect.Method;
import java.math.BigInteger;
import java.util.Arrays;
import java.util.Random;

/**
 * TALLY at its edges: sums at 2^130 - 5 and at 2^128 (SEALS; promises 17 and 24).
 * R and S come out of key blocks, so no run of calls leads there at will: this test alone looks into the class.
 */
public final class TallyEdgesTest {
    private static final Check check = new Check();
    private static final BigInteger WHOLE = BigInteger.ONE.shiftLeft(128);
    private static final BigInteger MODULUS = BigInteger.ONE.shiftLeft(130).subtract(BigInteger.valueOf(5));
    private static final int LIMB = 26;

    private final Object seals;
    private final long[] factor;
    private final long[] total;
    private final byte[] block;
    private final byte[] tally;
    private final Method absorb;
    private final Method finish;

    private TallyEdgesTest() throws Exception {
        Class<?> type = Class.forName("TransportPair$Seals");
        Constructor<?> maker = type.getDeclaredConstructor();
        maker.setAccessible(true);
        seals = maker.newInstance();
        factor = (long[]) field(type, "factor");
        total = (long[]) field(type, "total");
        block = (byte[]) field(type, "block");
        tally = (byte[]) field(type, "tally");
        absorb = type.getDeclaredMethod("absorb", byte[].class, int.class, int.class);
        finish = type.getDeclaredMethod("finishTally");
        absorb.setAccessible(true);
        finish.setAccessible(true);
    }

    public static void main(String[] args) throws Exception {
        TallyEdgesTest test = new TallyEdgesTest();
        test.sumsAtTheModulus();
        test.sumsAtTheEnd();
        test.widestFactors();
        check.end();
    }

    private Object field(Class<?> type, String name) throws Exception {
        Field field = type.getDeclaredField(name);
        field.setAccessible(true);
        return field.get(seals);
    }

    private static BigInteger number(byte[] bytes, int from, int to) {
        BigInteger value = BigInteger.ZERO;
        for (int i = to - 1; i >= from; i--) {
            value = value.shiftLeft(8).or(BigInteger.valueOf(bytes[i] & 255));
        }
        return value;
    }

    private static void put(byte[] bytes, int from, BigInteger value) {
        for (int i = 0; i < 16; i++) {
            bytes[from + i] = value.shiftRight(8 * i).byteValue();
        }
    }

    /** The tally of bytes is what whole numbers give. */
    private void same(String what, BigInteger r, BigInteger s, byte[] bytes) throws Exception {
        BigInteger a = BigInteger.ZERO;
        for (int at = 0; at < bytes.length; at += 16) {
            a = a.add(number(bytes, at, at + 16)).add(WHOLE).multiply(r).mod(MODULUS);
        }
        for (int i = 0; i < 5; i++) {
            factor[i] = r.shiftRight(LIMB * i).longValue() & (1 << LIMB) - 1;
        }
        Arrays.fill(total, 0);
        put(block, 16, s);
        absorb.invoke(seals, bytes, 0, bytes.length);
        finish.invoke(seals);
        check.isTrue(what, number(tally, 0, 16).equals(a.add(s).mod(WHOLE)));
    }

    /** So many blocks of 16 bytes that make a sum, or null. */
    private static byte[] blocks(int count, BigInteger sum) {
        byte[] bytes = new byte[16 * count];
        BigInteger left = sum.subtract(WHOLE.multiply(BigInteger.valueOf(count)));
        if (left.signum() < 0) {
            return null;
        }
        for (int at = 0; at < bytes.length; at += 16) {
            BigInteger part = left.min(WHOLE.subtract(BigInteger.ONE));
            put(bytes, at, part);
            left = left.subtract(part);
        }
        return left.signum() == 0 ? bytes : null;
    }

    /** ".. * R modulo 2^130 - 5": with an R of 1 the sum is just below that, that, or above it. */
    private void sumsAtTheModulus() throws Exception {
        for (int count = 2; count <= 4; count++) {
            for (int more = -70; more <= 70; more++) {
                byte[] bytes = blocks(count, MODULUS.add(BigInteger.valueOf(more)));
                if (bytes != null) {
                    same(count + " blocks, 2^130 - 5 and " + more, BigInteger.ONE, BigInteger.ZERO, bytes);
                }
            }
        }
    }

    /** "The tally is A + S modulo 2^128": A and S make just less, that, or more; carries go through all words. */
    private void sumsAtTheEnd() throws Exception {
        for (int more = -2; more <= 2; more++) {
            BigInteger s = WHOLE.subtract(BigInteger.valueOf(100));
            byte[] bytes = blocks(1, WHOLE.add(BigInteger.valueOf(100 + more)));
            same("A + S, 2^128 and " + more, BigInteger.ONE, s, bytes);
        }
        for (int shift = 3; shift < 128; shift++) {
            BigInteger low = BigInteger.ONE.shiftLeft(shift).subtract(BigInteger.ONE);
            same("a carry through " + shift + " bits", BigInteger.ONE, BigInteger.ONE, blocks(1, WHOLE.add(low)));
            same("1s above 2^130 - 5, " + shift, BigInteger.ONE, low, blocks(4, MODULUS.add(low)));
            for (int more = 0; more < 6; more++) {
                BigInteger sum = BigInteger.ONE.shiftLeft(130).add(low).subtract(BigInteger.valueOf(more));
                same("1s above 2^130, " + shift + ", " + more, BigInteger.ONE, low, blocks(4, sum));
            }
        }
    }

    /** The greatest R there is, and bytes of 255: the limbs are as full as they get. */
    private void widestFactors() throws Exception {
        Random random = new Random(1);
        byte[] most = new byte[16];
        Arrays.fill(most, (byte) 255);
        for (int i = 3; i < 16; i += 4) {
            most[i] &= 15;
        }
        for (int i = 4; i < 16; i += 4) {
            most[i] &= (byte) 252;
        }
        BigInteger r = number(most, 0, 16);
        for (int count = 1; count <= 200; count++) {
            byte[] bytes = new byte[16 * (1 + count % 70)];
            Arrays.fill(bytes, (byte) 255);
            for (int i = 0; i < count / 10; i++) {
                bytes[random.nextInt(bytes.length)] = (byte) random.nextInt(256);
            }
            same("the greatest R, " + count, r, WHOLE.subtract(BigInteger.ONE), bytes);
        }
    }
}
