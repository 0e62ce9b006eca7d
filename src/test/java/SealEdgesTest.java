import java.util.Arrays;

/** SEALS at their edges, against the Java library's own: sizes round the multiples of 64 and 16 (promises 4, 5, 17 and 24). */
public final class SealEdgesTest {
    private static final Check check = new Check();

    public static void main(String[] args) throws Exception {
        digestsOfAllSizes();
        sealedOfAllSizes();
        numbersInTheNonce();
        keysAndRandoms();
        check.end();
    }

    /** "as many 0s as are needed for 8 less than a multiple of 64": messages of every size modulo 64. */
    private static void digestsOfAllSizes() throws Exception {
        for (int more = 0; more < 66; more++) {
            Forge forge = new Forge(Keys.join(Keys.bytes(33), Forge.number(more), new byte[more]), null);
            TransportPair x = Pairs.begun();
            x.tick(1);
            Forge.comes(x, 0, forge.packet(0, 0, 0, 1200, Forge.crypto(0, forge.hello)));
            x.tick(1);
            int first = (x.at(1, 0, 24) & 63) << 8 | x.at(1, 0, 25);
            byte[] got = forge.insideLong(x, 1, 0, 26 + first, 1);
            byte[] want = Forge.crypto(0, forge.granted);
            check.isTrue("HELLO of " + forge.hello.length, Arrays.equals(Arrays.copyOf(got, want.length), want));
            Forge.comes(x, 0, forge.packet(1, 0, 0, 1200, Forge.crypto(0, forge.done0)));
            check.due("the proof of side 0", x.look(1, 0), 2);
            x.drop(1, 0);
            x.tick(1);
            check.due("DONE, by the talk secrets", forge.inside(x, 1, 0)[0], 30);
        }
    }

    /** "for each 16 bytes in turn (at last maybe fewer)"; key blocks of 64 bytes. */
    private static void sealedOfAllSizes() throws Exception {
        Forge forge = new Forge();
        TransportPair x = Pairs.still();
        for (int size : sizes()) {
            byte[] raw = new byte[size];
            raw[size - 1] = 1;
            Pairs.clear(x);
            Pairs.tape(x, raw);
            x.raw(0);
            x.tick(1);
            byte[] got = forge.inside(x, 0, 0);
            check.isTrue("sealed, of " + size, Arrays.equals(got, Arrays.copyOf(raw, Math.max(size, 2))));
            long before = x.space(1, 2, 7);
            long ranges = x.space(1, 2, 6);
            x.deliver(0, 0);
            check.due("opened, of " + size, x.space(1, 2, 7) - before, 1);
            check.due("in order", x.space(1, 2, 6), ranges);
            x.tick(1);
            Pairs.pass(x, 1);
        }
    }

    private static int[] sizes() {
        int[] all = new int[200];
        for (int i = 0; i < 190; i++) {
            all[i] = i + 1;
        }
        int[] far = {255, 256, 257, 511, 512, 513, 997, 998, 999, 1000};
        System.arraycopy(far, 0, all, 190, far.length);
        return all;
    }

    /** "the nonce is the IV, its last 8 bytes ^ those of the number". */
    private static void numbersInTheNonce() throws Exception {
        Forge forge = new Forge();
        TransportPair x = Pairs.still();
        Pairs.tape(x, 1, 1, 1, 1);
        x.raw(0);
        x.tick(1);
        long[] numbers = {1, 255, 256, 65535, 65536, 16777215, 16777216, 2000000000L, 4000000000L, 4294967295L, 4294967296L,
            6000000000L, 8000000000L};
        long came = x.space(1, 2, 7);
        for (long n : numbers) {
            Forge.comes(x, 0, forge.shortPacket(0, 3, n, Keys.bytes(1, 1)));
            came++;
            check.due("number " + n, x.space(1, 2, 7), came);
        }
    }

    /** Every byte of a key and of random bytes is in what is made of them. */
    private static void keysAndRandoms() {
        String plain = first(Pairs.key(), Pairs.randomOf(0), Pairs.randomOf(1));
        for (int i = 0; i < 32; i++) {
            byte[] key = Pairs.key();
            key[i] ^= 64;
            byte[] zero = Pairs.randomOf(0);
            zero[i] ^= 64;
            byte[] one = Pairs.randomOf(1);
            one[i] ^= 64;
            check.isTrue("key byte " + i, !first(key, Pairs.randomOf(0), Pairs.randomOf(1)).equals(plain));
            check.isTrue("random byte " + i + " of side 0", !first(Pairs.key(), zero, Pairs.randomOf(1)).equals(plain));
            check.isTrue("random byte " + i + " of side 1", !first(Pairs.key(), Pairs.randomOf(0), one).equals(plain));
        }
    }

    /** The first answer, as it lies on the line. */
    private static String first(byte[] key, byte[] zero, byte[] one) {
        TransportPair x = new TransportPair();
        for (int side = 0; side < 2; side++) {
            Pairs.tape(x, key);
            x.key(side);
            Pairs.tape(x, side == 0 ? zero : one);
            x.random(side);
        }
        x.begin();
        x.flow(1);
        x.tick(4);
        check.due("both greet in time", x.look(0, 0), 2);
        x.flow(0);
        x.open(0, false);
        Pairs.write(x, 0, 2, Pairs.row(3, 3));
        x.tick(1);
        return Arrays.toString(Pairs.datagram(x, 0, 0));
    }
}
