import java.io.ByteArrayOutputStream;
import java.nio.charset.StandardCharsets;
import java.security.MessageDigest;
import java.util.Arrays;
import javax.crypto.Cipher;
import javax.crypto.Mac;
import javax.crypto.spec.ChaCha20ParameterSpec;
import javax.crypto.spec.IvParameterSpec;
import javax.crypto.spec.SecretKeySpec;

/** Opens the datagrams of a greeting with the library's own digests and ciphers, and reads what is in them. */
public final class SealsTest {
    private static final Check check = new Check();
    private static final String[] TEXTS = {"v1 key", "v1 iv", "v1 hide", "v1 turn", "v1 first a", "v1 first b",
        "v1 greet a", "v1 greet b", "v1 talk a", "v1 talk b", "v1 done"};
    private static final byte[] NONE = new byte[0];

    public static void main(String[] args) throws Exception {
        TransportPair x = Pairs.begun();
        byte[] random0 = Pairs.randomOf(0);
        byte[] random1 = Pairs.randomOf(1);
        byte[] name0 = Arrays.copyOf(random0, 8);
        byte[] name1 = Arrays.copyOf(random1, 8);
        byte[] firstName = Arrays.copyOfRange(random0, 8, 16);
        x.tick(1);
        byte[] first = mac(bytes(1, 2, 3, 4, 5, 6, 7, 8, 9, 10, 11, 12, 13, 14, 15, 16, 17, 18, 19, 20), firstName);
        byte[] datagram = Pairs.datagram(x, 0, 0);
        byte[] set = bytes(1, 4, 0x80, 0, 0x75, 0x30, 3, 2, 0x44, 0xb0, 4, 4, 0x80, 1, 0, 0, 5, 4, 0x80, 0, 0x40, 0,
            6, 4, 0x80, 0, 0x40, 0, 7, 4, 0x80, 0, 0x40, 0, 8, 1, 16, 9, 1, 8, 10, 1, 0, 14, 1, 2, 15, 8);
        byte[] hello = message(1, join(random0, set, name0));
        byte[] body = opened(label(4, first, NONE, 32), datagram, 0, 26, 1200, 0);
        check.due("bytes behind the head", body.length, 1200 - 26 - 2 - 16);
        starts("CRYPTO with HELLO", body, join(bytes(6, 0, 0x40, hello.length), hello, bytes(0, 0)));
        int head = datagram[0] & 0xf0;
        check.due("an INITIAL one", head, 0xc0);

        x.deliver(0, 0);
        x.tick(1);
        datagram = Pairs.datagram(x, 1, 0);
        byte[] answer = message(2, random1);
        int length = (datagram[24] & 63) << 8 | datagram[25] & 255;
        starts("TO and BY", Arrays.copyOfRange(datagram, 5, 23), join(bytes(8), name0, bytes(8), name1));
        body = opened(label(5, first, NONE, 32), datagram, 0, 26, 26 + length, 0);
        starts("ACK and ANSWER", body, join(bytes(2, 0, 1, 0, 0, 6, 0, 36), answer));

        byte[] d2 = digest(hello, answer);
        byte[] greet = mac(Pairs.key(), d2);
        byte[] greet0 = label(6, greet, d2, 32);
        byte[] greet1 = label(7, greet, d2, 32);
        byte[] parameters = message(8, join(bytes(0, 8), firstName, set, name1));
        byte[] done1 = message(20, mac(label(10, greet1, NONE, 32), digest(hello, answer, parameters)));
        int at = 26 + length;
        body = opened(greet1, datagram, at, 25, 1200, 0);
        int size = parameters.length + done1.length;
        starts("PARAMETERS and DONE", body, join(bytes(6, 0, 0x40, size), parameters, done1, bytes(0, 0, 0)));

        x.deliver(1, 0);
        x.tick(1);
        datagram = Pairs.datagram(x, 0, 0);
        byte[] d4 = digest(hello, answer, parameters, done1);
        byte[] done0 = message(20, mac(label(10, greet0, NONE, 32), d4));
        length = (datagram[24] & 63) << 8 | datagram[25] & 255;
        body = opened(label(4, first, NONE, 32), datagram, 0, 26, 26 + length, 1);
        starts("ACK alone", body, bytes(2, 0, 1, 0, 0));
        body = opened(greet0, datagram, 26 + length, 25, datagram.length, 0);
        starts("ACK and DONE", body, join(bytes(2, 0, 1, 0, 0, 6, 0, 36), done0));

        x.deliver(0, 0);
        x.tick(1);
        byte[] talk = mac(greet, d4);
        datagram = Pairs.datagram(x, 1, 0);
        starts("TO", Arrays.copyOfRange(datagram, 1, 9), name0);
        body = opened(label(9, talk, d4, 32), datagram, 0, 9, datagram.length, 0);
        starts("DONE, and PADDING", body, bytes(30, 0));

        x.deliver(1, 0);
        x.open(0, true);
        Pairs.write(x, 0, 0, Pairs.row(70, 1));
        x.finish(0, 0);
        x.tick(1);
        datagram = Pairs.datagram(x, 0, 0);
        body = opened(label(8, talk, d4, 32), datagram, 0, 9, datagram.length, 0);
        starts("ACK, STREAM with its end", body, join(bytes(2, 0, 1, 0, 0, 11, 0, 0x40, 70), Pairs.row(70, 1)));

        x.deliver(0, 0);
        Pairs.rawNow(x, 0, 26, 128, 2, 3, 4, 5, 6, 7, 8, 26, 9, 2, 253, 4, 5, 6, 7, 255);
        x.reset(1, 0, 300);
        x.stop(1, 0, 1);
        x.tick(1);
        datagram = Pairs.datagram(x, 1, 0);
        body = opened(label(9, talk, d4, 32), datagram, 0, 9, datagram.length, 1);
        starts("ACK, RESPONSE to the latest, RESET", body,
            bytes(2, 1, 1, 0, 1, 27, 9, 2, 253, 4, 5, 6, 7, 255, 4, 0, 0x41, 0x2c, 0));
        check.due("STOP is for what is not whole yet", body.length, 19);
        x.deliver(1, 0);
        x.open(0, false);
        Pairs.write(x, 0, 2, Pairs.row(3000, 2));
        x.tick(1);
        datagram = Pairs.datagram(x, 0, 0);
        check.due("a datagram full but for the two bytes that a number may have more", datagram.length, 1198);
        body = opened(label(8, talk, d4, 32), datagram, 0, 9, 1198, 2);
        starts("STREAM ahead of its offset", body, bytes(2, 1, 1, 0, 1, 10, 2, 0x44, 0x8a));
        body = opened(label(8, talk, d4, 32), Pairs.datagram(x, 0, 1), 0, 9, 1198, 3);
        starts("STREAM with its offset", body, bytes(14, 2, 0x44, 0x8a, 0x44, 0x8d));
        check.end();
    }

    private static void starts(String what, byte[] got, byte[] want) {
        boolean same = got.length >= want.length && Arrays.equals(Arrays.copyOf(got, want.length), want);
        check.isTrue(what + ": begins with " + Arrays.toString(want), same);
    }

    private static byte[] bytes(int... all) {
        byte[] b = new byte[all.length];
        for (int i = 0; i < b.length; i++) {
            b[i] = (byte) all[i];
        }
        return b;
    }

    private static byte[] join(byte[]... all) {
        ByteArrayOutputStream out = new ByteArrayOutputStream();
        for (byte[] b : all) {
            out.write(b, 0, b.length);
        }
        return out.toByteArray();
    }

    private static byte[] message(int type, byte[] body) {
        return join(bytes(type, 0, body.length >> 8, body.length), body);
    }

    private static byte[] digest(byte[]... messages) throws Exception {
        return MessageDigest.getInstance("SHA-256").digest(join(messages));
    }

    private static byte[] mac(byte[] key, byte[] data) throws Exception {
        Mac mac = Mac.getInstance("HmacSHA256");
        mac.init(new SecretKeySpec(key, "HmacSHA256"));
        return mac.doFinal(data);
    }

    private static byte[] label(int w, byte[] key, byte[] context, int n) throws Exception {
        byte[] text = TEXTS[w].getBytes(StandardCharsets.US_ASCII);
        byte[] info = join(bytes(0, n, text.length), text, bytes(context.length), context, bytes(1));
        return Arrays.copyOf(mac(key, info), n);
    }

    /** Unshields and opens the packet of a datagram from a place on; its number must be the one told. */
    private static byte[] opened(byte[] secret, byte[] datagram, int at, int head, int end, int number) throws Exception {
        byte[] p = Arrays.copyOfRange(datagram, at, end);
        byte[] sample = Arrays.copyOfRange(p, head + 4, head + 20);
        Cipher hide = Cipher.getInstance("ChaCha20");
        int counter = sample[0] & 255 | (sample[1] & 255) << 8 | (sample[2] & 255) << 16 | sample[3] << 24;
        SecretKeySpec hideKey = new SecretKeySpec(label(2, secret, NONE, 32), "ChaCha20");
        hide.init(Cipher.ENCRYPT_MODE, hideKey, new ChaCha20ParameterSpec(Arrays.copyOfRange(sample, 4, 16), counter));
        byte[] mask = hide.doFinal(new byte[5]);
        p[0] ^= (byte) (mask[0] & (p[0] < 0 ? 15 : 31));
        check.due("the number has two bytes, and no bit between is set", p[0] & (p[0] < 0 ? 15 : 63), 1);
        p[head] ^= mask[1];
        p[head + 1] ^= mask[2];
        check.due("number", (p[head] & 255) << 8 | p[head + 1] & 255, number);
        byte[] nonce = label(1, secret, NONE, 12);
        nonce[11] ^= (byte) number;
        Cipher open = Cipher.getInstance("ChaCha20-Poly1305");
        SecretKeySpec key = new SecretKeySpec(label(0, secret, NONE, 32), "ChaCha20");
        open.init(Cipher.DECRYPT_MODE, key, new IvParameterSpec(nonce));
        open.updateAAD(p, 0, head + 2);
        return open.doFinal(p, head + 2, p.length - head - 2);
    }
}
