import java.util.Arrays;
import javax.crypto.Cipher;

/** Makes datagrams that open, for a pair of Pairs.begun(), and puts them in place of those on its lines. */
final class Forge {
    final byte[] name0 = Arrays.copyOf(Pairs.randomOf(0), 8);
    final byte[] name1 = Arrays.copyOf(Pairs.randomOf(1), 8);
    final byte[] firstName = Arrays.copyOfRange(Pairs.randomOf(0), 8, 16);
    final byte[] hello;
    final byte[] answer;
    /** PARAMETERS and DONE of side 1. */
    final byte[] granted;
    final byte[] done0;
    /** By level and side. */
    final byte[][][] secrets = new byte[3][2][];

    Forge() throws Exception {
        this(Keys.NONE, null);
    }

    /** With more behind the parameters of side 0, and other parameters of side 1 (null: as they are). */
    Forge(byte[] more, byte[] others) throws Exception {
        this(new int[0], more, others);
    }

    /** For a pair of Pairs.with(..). */
    Forge(int... parameters) throws Exception {
        this(parameters, Keys.NONE, null);
    }

    private Forge(int[] parameters, byte[] more, byte[] others) throws Exception {
        byte[] firstKey = new byte[20];
        for (int i = 0; i < 20; i++) {
            firstKey[i] = (byte) (i + 1);
        }
        byte[] first = Keys.mac(firstKey, firstName);
        hello = Keys.message(1, Keys.join(Pairs.randomOf(0), told(0, parameters), Keys.bytes(15, 8), name0, more));
        answer = Keys.message(2, Pairs.randomOf(1));
        byte[] d2 = Keys.digest(hello, answer);
        byte[] greet = Keys.mac(Pairs.key(), d2);
        secrets[0][0] = Keys.label(4, first, Keys.NONE, 32);
        secrets[0][1] = Keys.label(5, first, Keys.NONE, 32);
        secrets[1][0] = Keys.label(6, greet, d2, 32);
        secrets[1][1] = Keys.label(7, greet, d2, 32);
        byte[] usual = Keys.join(Keys.bytes(0, 8), firstName, told(1, parameters), Keys.bytes(15, 8), name1);
        byte[] message = Keys.message(8, others == null ? usual : others);
        byte[] proof1 = Keys.mac(proofKey(1), Keys.digest(hello, answer, message));
        granted = Keys.join(message, Keys.message(20, proof1));
        byte[] d4 = Keys.digest(hello, answer, granted);
        done0 = Keys.message(20, Keys.mac(proofKey(0), d4));
        byte[] talk = Keys.mac(greet, d4);
        secrets[2][0] = Keys.label(8, talk, d4, 32);
        secrets[2][1] = Keys.label(9, talk, d4, 32);
    }

    /** The parameters 1 to 14 as a side tells them. */
    private static byte[] told(int side, int[] parameters) {
        int[] set = {0, 30000, 0, 1200, 65536, 16384, 16384, 16384, 16, 8, 0, 0, 0, 0, 2};
        for (int i = 0; i < parameters.length; i += 3) {
            if (parameters[i] == side) {
                set[parameters[i + 1]] = parameters[i + 2];
            }
        }
        byte[] all = Keys.NONE;
        for (int id = 1; id < set.length; id++) {
            if (set[id] != 0 || id == 10) {
                byte[] value = number(set[id]);
                all = Keys.join(all, Keys.bytes(id, value.length), value);
            }
        }
        return all;
    }

    private byte[] proofKey(int side) throws Exception {
        return Keys.label(10, secrets[1][side], Keys.NONE, 32);
    }

    static byte[] number(long value) {
        int size = value < 64 ? 1 : value < 16384 ? 2 : value < 1 << 30 ? 4 : 8;
        byte[] b = new byte[size];
        for (int i = 0; i < size; i++) {
            b[i] = (byte) (value >>> 8 * (size - 1 - i));
        }
        b[0] |= (byte) (size == 1 ? 0 : size == 2 ? 64 : size == 4 ? 128 : 192);
        return b;
    }

    static byte[] crypto(long offset, byte[] data) {
        return Keys.join(Keys.bytes(6), number(offset), number(data.length), data);
    }

    /** A row in which the bytes from one place up to another are not what they were. */
    static byte[] spoiled(byte[] b, int from, int to) {
        byte[] c = b.clone();
        for (int i = from; i < to; i++) {
            c[i] ^= (byte) 85;
        }
        return c;
    }

    /** A long packet by a side, with these names and first bits, made so many bytes by PADDING. */
    byte[] named(int level, int side, byte[] to, byte[] by, int bits, long number, int size, byte[] frames) throws Exception {
        int numberSize = 1 + (bits & 3);
        byte[] token = level == 0 ? Keys.bytes(0) : Keys.NONE;
        int headSize = 9 + to.length + by.length + token.length;
        int length = Math.max(size - headSize, numberSize + frames.length + 16);
        byte[] header = Keys.join(Keys.bytes(192 + 32 * level + bits, 0, 0, 0, 1, to.length), to, Keys.bytes(by.length), by,
            token, Keys.bytes(64 + (length >> 8), length));
        return Keys.packet(secrets[level][side], header, number, Arrays.copyOf(frames, length - 16 - numberSize));
    }

    /** A long packet by a side, with the names that it would write. */
    byte[] packet(int level, int side, long number, int size, byte[]... frames) throws Exception {
        byte[] to = side == 1 ? name0 : level == 0 ? firstName : name1;
        return named(level, side, to, side == 0 ? name0 : name1, 1, number, size, Keys.join(frames));
    }

    byte[] shortPacket(int side, int bits, long number, byte[] frames) throws Exception {
        byte[] header = Keys.join(Keys.bytes(64 + bits), side == 0 ? name1 : name0);
        return Keys.packet(secrets[2][side], header, number, frames);
    }

    /** What is in the packet of space 2 that datagram k of a way ends with and that begins at a place of it. */
    byte[] inside(TransportPair x, int way, int k, int from) throws Exception {
        byte[] datagram = Pairs.datagram(x, way, k);
        return unsealed(secrets[2][way], Arrays.copyOfRange(datagram, from, datagram.length), 9, x.space(way, 2, 0));
    }

    /** What is in datagram k of a way, which is a packet of space 2. */
    byte[] inside(TransportPair x, int way, int k) throws Exception {
        return inside(x, way, k, 0);
    }

    /** What is in the long packet of a datagram that begins at a place. */
    byte[] insideLong(TransportPair x, int way, int k, int from, int level) throws Exception {
        byte[] datagram = Pairs.datagram(x, way, k);
        int head = level == 0 ? 26 : 25;
        int length = (datagram[from + head - 2] & 63) << 8 | datagram[from + head - 1] & 255;
        byte[] p = Arrays.copyOfRange(datagram, from, from + head + length);
        return unsealed(secrets[level][way], p, head, x.space(way, level, 0));
    }

    /** Opens a packet with a number of two bytes that is below a bound (and near it). */
    private static byte[] unsealed(byte[] secret, byte[] p, int head, long bound) throws Exception {
        Keys.shield(secret, p, head, false);
        if ((p[0] & 3) != 1) {
            throw new IllegalStateException("a number of " + ((p[0] & 3) + 1) + " bytes");
        }
        long number = (p[head] & 255) << 8 | p[head + 1] & 255;
        if (number >= bound) {
            throw new IllegalStateException("number " + number + " of " + bound);
        }
        return Keys.crypt(Cipher.DECRYPT_MODE, secret, p, head + 2, number);
    }

    /** A frame of a kind and numbers. */
    static byte[] frame(int kind, long... numbers) {
        byte[] all = Keys.bytes(kind);
        for (long n : numbers) {
            all = Keys.join(all, number(n));
        }
        return all;
    }

    /** A STREAM frame with an offset and a length. */
    static byte[] stream(int id, long offset, int size, boolean fin) {
        return Keys.join(frame(fin ? 15 : 14, id, offset, size), Pairs.row(size, (int) offset));
    }

    /** Datagram k of a way becomes another one of its size. */
    static void replace(TransportPair x, int way, int k, byte[] datagram) {
        int size = x.at(way, k, -1);
        if (datagram.length != size) {
            throw new IllegalStateException("a datagram of " + datagram.length + " for one of " + size);
        }
        for (int i = 0; i < size; i++) {
            x.alter(way, k, i, x.at(way, k, i) ^ datagram[i]);
        }
    }

    /** Another datagram of the size of the first one on a way comes in its place; that one stays. */
    static void comes(TransportPair x, int way, byte[] datagram) {
        int last = x.twice(way, 0) - 1;
        replace(x, way, last, datagram);
        x.deliver(way, last);
    }
}
