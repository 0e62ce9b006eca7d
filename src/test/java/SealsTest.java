import java.util.Arrays;
import javax.crypto.Cipher;

/** Opens the datagrams of a greeting with the library's own digests and ciphers, and reads what is in them. */
public final class SealsTest {
    private static final Check check = new Check();

    public static void main(String[] args) throws Exception {
        TransportPair x = Pairs.begun();
        byte[] random0 = Pairs.randomOf(0);
        byte[] random1 = Pairs.randomOf(1);
        byte[] name0 = Arrays.copyOf(random0, 8);
        byte[] name1 = Arrays.copyOf(random1, 8);
        byte[] firstName = Arrays.copyOfRange(random0, 8, 16);
        x.tick(1);
        byte[] first = Keys.mac(Keys.bytes(1, 2, 3, 4, 5, 6, 7, 8, 9, 10, 11, 12, 13, 14, 15, 16, 17, 18, 19, 20), firstName);
        byte[] datagram = Pairs.datagram(x, 0, 0);
        byte[] set = Keys.bytes(1, 4, 0x80, 0, 0x75, 0x30, 3, 2, 0x44, 0xb0, 4, 4, 0x80, 1, 0, 0, 5, 4, 0x80, 0, 0x40, 0,
            6, 4, 0x80, 0, 0x40, 0, 7, 4, 0x80, 0, 0x40, 0, 8, 1, 16, 9, 1, 8, 10, 1, 0, 14, 1, 2, 15, 8);
        byte[] hello = Keys.message(1, Keys.join(random0, set, name0));
        byte[] body = opened(Keys.label(4, first, Keys.NONE, 32), datagram, 0, 26, 1200, 0);
        check.due("bytes behind the head", body.length, 1200 - 26 - 2 - 16);
        starts("CRYPTO with HELLO", body, Keys.join(Keys.bytes(6, 0, 0x40, hello.length), hello, Keys.bytes(0, 0)));
        int head = datagram[0] & 0xf0;
        check.due("an INITIAL one", head, 0xc0);

        x.deliver(0, 0);
        x.tick(1);
        datagram = Pairs.datagram(x, 1, 0);
        byte[] answer = Keys.message(2, random1);
        int length = (datagram[24] & 63) << 8 | datagram[25] & 255;
        starts("TO and BY", Arrays.copyOfRange(datagram, 5, 23), Keys.join(Keys.bytes(8), name0, Keys.bytes(8), name1));
        body = opened(Keys.label(5, first, Keys.NONE, 32), datagram, 0, 26, 26 + length, 0);
        starts("ACK and ANSWER", body, Keys.join(Keys.bytes(2, 0, 1, 0, 0, 6, 0, 36), answer));

        byte[] d2 = Keys.digest(hello, answer);
        byte[] greet = Keys.mac(Pairs.key(), d2);
        byte[] greet0 = Keys.label(6, greet, d2, 32);
        byte[] greet1 = Keys.label(7, greet, d2, 32);
        byte[] parameters = Keys.message(8, Keys.join(Keys.bytes(0, 8), firstName, set, name1));
        byte[] done1 = Keys.message(20, Keys.mac(Keys.label(10, greet1, Keys.NONE, 32), Keys.digest(hello, answer, parameters)));
        int at = 26 + length;
        body = opened(greet1, datagram, at, 25, 1200, 0);
        int size = parameters.length + done1.length;
        starts("PARAMETERS and DONE", body, Keys.join(Keys.bytes(6, 0, 0x40, size), parameters, done1, Keys.bytes(0, 0, 0)));

        x.deliver(1, 0);
        x.tick(1);
        datagram = Pairs.datagram(x, 0, 0);
        byte[] d4 = Keys.digest(hello, answer, parameters, done1);
        byte[] done0 = Keys.message(20, Keys.mac(Keys.label(10, greet0, Keys.NONE, 32), d4));
        length = (datagram[24] & 63) << 8 | datagram[25] & 255;
        body = opened(Keys.label(4, first, Keys.NONE, 32), datagram, 0, 26, 26 + length, 1);
        starts("ACK alone", body, Keys.bytes(2, 0, 1, 0, 0));
        body = opened(greet0, datagram, 26 + length, 25, datagram.length, 0);
        starts("ACK and DONE", body, Keys.join(Keys.bytes(2, 0, 1, 0, 0, 6, 0, 36), done0));

        x.deliver(0, 0);
        x.tick(1);
        byte[] talk = Keys.mac(greet, d4);
        datagram = Pairs.datagram(x, 1, 0);
        starts("TO", Arrays.copyOfRange(datagram, 1, 9), name0);
        body = opened(Keys.label(9, talk, d4, 32), datagram, 0, 9, datagram.length, 0);
        starts("DONE, and PADDING", body, Keys.bytes(30, 0));

        x.deliver(1, 0);
        x.open(0, true);
        Pairs.write(x, 0, 0, Pairs.row(70, 1));
        x.finish(0, 0);
        x.tick(1);
        datagram = Pairs.datagram(x, 0, 0);
        body = opened(Keys.label(8, talk, d4, 32), datagram, 0, 9, datagram.length, 0);
        starts("ACK, STREAM with its end", body, Keys.join(Keys.bytes(2, 0, 1, 0, 0, 11, 0, 0x40, 70), Pairs.row(70, 1)));

        x.deliver(0, 0);
        Pairs.rawNow(x, 0, 26, 128, 2, 3, 4, 5, 6, 7, 8, 26, 9, 2, 253, 4, 5, 6, 7, 255);
        x.reset(1, 0, 300);
        x.stop(1, 0, 1);
        x.tick(1);
        datagram = Pairs.datagram(x, 1, 0);
        body = opened(Keys.label(9, talk, d4, 32), datagram, 0, 9, datagram.length, 1);
        starts("ACK, RESPONSE to the latest, RESET", body,
            Keys.bytes(2, 1, 1, 0, 1, 27, 9, 2, 253, 4, 5, 6, 7, 255, 4, 0, 0x41, 0x2c, 0));
        check.due("STOP is for what is not whole yet", body.length, 19);
        x.deliver(1, 0);
        x.open(0, false);
        Pairs.write(x, 0, 2, Pairs.row(3000, 2));
        x.tick(1);
        datagram = Pairs.datagram(x, 0, 0);
        check.due("a datagram full but for the two bytes that a number may have more", datagram.length, 1198);
        body = opened(Keys.label(8, talk, d4, 32), datagram, 0, 9, 1198, 2);
        starts("STREAM ahead of its offset", body, Keys.bytes(2, 1, 1, 0, 1, 10, 2, 0x44, 0x8a));
        body = opened(Keys.label(8, talk, d4, 32), Pairs.datagram(x, 0, 1), 0, 9, 1198, 3);
        starts("STREAM with its offset", body, Keys.bytes(14, 2, 0x44, 0x8a, 0x44, 0x8d));
        check.end();
    }

    private static void starts(String what, byte[] got, byte[] want) {
        boolean same = got.length >= want.length && Arrays.equals(Arrays.copyOf(got, want.length), want);
        check.isTrue(what + ": begins with " + Arrays.toString(want), same);
    }

    /** Unshields and opens the packet of a datagram from a place on; its number must be the one told. */
    private static byte[] opened(byte[] secret, byte[] datagram, int at, int head, int end, int number) throws Exception {
        byte[] p = Arrays.copyOfRange(datagram, at, end);
        Keys.shield(secret, p, head, false);
        check.due("the number has two bytes, and no bit between is set", p[0] & (p[0] < 0 ? 15 : 63), 1);
        check.due("number", (p[head] & 255) << 8 | p[head + 1] & 255, number);
        return Keys.crypt(Cipher.DECRYPT_MODE, secret, p, head + 2, number);
    }
}
