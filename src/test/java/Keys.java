import java.io.ByteArrayOutputStream;
import java.nio.charset.StandardCharsets;
import java.security.MessageDigest;
import java.util.Arrays;
import javax.crypto.Cipher;
import javax.crypto.Mac;
import javax.crypto.spec.ChaCha20ParameterSpec;
import javax.crypto.spec.IvParameterSpec;
import javax.crypto.spec.SecretKeySpec;

/** The document's digests, labels and seals, made with the library's own ciphers. */
final class Keys {
    static final byte[] NONE = new byte[0];
    private static final String[] TEXTS = {"v1 key", "v1 iv", "v1 hide", "v1 turn", "v1 first a", "v1 first b",
        "v1 greet a", "v1 greet b", "v1 talk a", "v1 talk b", "v1 done"};

    private Keys() {
    }

    static byte[] bytes(int... all) {
        byte[] b = new byte[all.length];
        for (int i = 0; i < b.length; i++) {
            b[i] = (byte) all[i];
        }
        return b;
    }

    static byte[] join(byte[]... all) {
        ByteArrayOutputStream out = new ByteArrayOutputStream();
        for (byte[] b : all) {
            out.write(b, 0, b.length);
        }
        return out.toByteArray();
    }

    static byte[] message(int type, byte[] body) {
        return join(bytes(type, 0, body.length >> 8, body.length), body);
    }

    static byte[] digest(byte[]... messages) throws Exception {
        return MessageDigest.getInstance("SHA-256").digest(join(messages));
    }

    static byte[] mac(byte[] key, byte[] data) throws Exception {
        Mac mac = Mac.getInstance("HmacSHA256");
        mac.init(new SecretKeySpec(key, "HmacSHA256"));
        return mac.doFinal(data);
    }

    static byte[] label(int w, byte[] key, byte[] context, int n) throws Exception {
        byte[] text = TEXTS[w].getBytes(StandardCharsets.US_ASCII);
        byte[] info = join(bytes(0, n, text.length), text, bytes(context.length), context, bytes(1));
        return Arrays.copyOf(mac(key, info), n);
    }

    /** Shields a packet, or the other way round; its number begins behind so many bytes. */
    static void shield(byte[] secret, byte[] p, int head, boolean hide) throws Exception {
        byte[] sample = Arrays.copyOfRange(p, head + 4, head + 20);
        Cipher cipher = Cipher.getInstance("ChaCha20");
        int counter = sample[0] & 255 | (sample[1] & 255) << 8 | (sample[2] & 255) << 16 | sample[3] << 24;
        SecretKeySpec key = new SecretKeySpec(label(2, secret, NONE, 32), "ChaCha20");
        cipher.init(Cipher.ENCRYPT_MODE, key, new ChaCha20ParameterSpec(Arrays.copyOfRange(sample, 4, 16), counter));
        byte[] mask = cipher.doFinal(new byte[5]);
        byte shown = p[0];
        p[0] ^= (byte) (mask[0] & (p[0] < 0 ? 15 : 31));
        int size = 1 + ((hide ? shown : p[0]) & 3);
        for (int i = 0; i < size; i++) {
            p[head + i] ^= mask[1 + i];
        }
    }

    /** What is behind the head, sealed or opened. */
    static byte[] crypt(int mode, byte[] secret, byte[] p, int headEnd, long number) throws Exception {
        byte[] nonce = label(1, secret, NONE, 12);
        for (int i = 0; i < 8; i++) {
            nonce[11 - i] ^= (byte) (number >>> 8 * i);
        }
        Cipher cipher = Cipher.getInstance("ChaCha20-Poly1305");
        cipher.init(mode, new SecretKeySpec(label(0, secret, NONE, 32), "ChaCha20"), new IvParameterSpec(nonce));
        cipher.updateAAD(p, 0, headEnd);
        return cipher.doFinal(p, headEnd, p.length - headEnd);
    }

    /** A packet with a header that ends ahead of its number, whose bytes are as many as the header's first byte says. */
    static byte[] packet(byte[] secret, byte[] header, long number, byte[] frames) throws Exception {
        int size = 1 + (header[0] & 3);
        byte[] cut = new byte[size];
        for (int i = 0; i < size; i++) {
            cut[i] = (byte) (number >>> 8 * (size - 1 - i));
        }
        byte[] head = join(header, cut);
        byte[] p = join(head, crypt(Cipher.ENCRYPT_MODE, secret, join(head, frames), head.length, number));
        shield(secret, p, header.length, true);
        return p;
    }
}
