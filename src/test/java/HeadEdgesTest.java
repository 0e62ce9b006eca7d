import java.util.Arrays;

/** HEADERS, datagrams, names and packet numbers at their edges (promises 17, 25 and 27). */
public final class HeadEdgesTest {
    private static final Check check = new Check();
    private static final byte[] PING = {1};

    public static void main(String[] args) throws Exception {
        firstByte();
        version();
        kindsOfPackets();
        namesBy();
        namesTo();
        lengths();
        tokens();
        shortOnes();
        firstBytesOfShortOnes();
        packetsOfADatagram();
        datagramsForSideOne();
        datagramsForSideZero();
        namesOfTheSide();
        firstNames();
        numbersGrow();
        numbersAtTheBeginning();
        bitsAndFrames();
        alteredAnywhere();
        check.end();
    }

    /** Side 0 has sent HELLO, which lies on way 0. */
    private static TransportPair asked() {
        TransportPair x = Pairs.begun();
        x.tick(1);
        return x;
    }

    /** A packet of space 0 by side 0, with a header that is told but for TO and BY of 8 bytes: as many bytes as told. */
    private static byte[] packet(Forge forge, int firstByte, int version, byte[] by, long number, int size) throws Exception {
        int head = 1 + 4 + 9 + 1 + by.length + 1 + 2;
        int length = size - head;
        byte[] header = Keys.join(Keys.bytes(firstByte, 0, 0, version >> 8, version, 8), forge.firstName, Keys.bytes(by.length), by,
            Keys.bytes(0), Keys.bytes(64 + (length >> 8), length));
        int numberSize = 1 + (firstByte & 3);
        return Keys.packet(forge.secrets[0][0], header, number, Arrays.copyOf(PING, length - 16 - numberSize));
    }

    /** A packet ahead of one that is right: which of them side 1 takes, 1 for the first and 2 for the second. */
    private static int taken(Forge forge, byte[] first) throws Exception {
        TransportPair x = asked();
        Forge.comes(x, 0, Keys.join(first, forge.packet(0, 0, 1, 1200 - first.length, Forge.crypto(0, forge.hello))));
        boolean second = x.look(1, 4) == 20;
        return (int) x.space(1, 0, 7) - (second ? 1 : 0) + (second ? 2 : 0);
    }

    /** "1 CUT: the byte is not there; 2 FIXED: its bit 64 is 0". */
    private static void firstByte() throws Exception {
        Forge forge = new Forge();
        check.due("a right one", taken(forge, packet(forge, 0xc1, 1, forge.name0, 0, 60)), 3);
        byte[] p = packet(forge, 0xc1, 1, forge.name0, 0, 60);
        p[0] ^= 64;
        check.due("the bit 64 of a long one is 0", taken(forge, p), 0);
        byte[] q = Keys.bytes(63);
        check.due("and of a short one", taken(forge, q), 0);
        check.due("all 0", taken(forge, Keys.bytes(0)), 0);
        TransportPair x = asked();
        Forge.comes(x, 0, forge.packet(0, 0, 0, 1200, Forge.crypto(0, forge.hello)));
        check.due("no byte behind the last packet", x.look(1, 4), 20);
    }

    /** "3 VERSION: it is not 1". */
    private static void version() throws Exception {
        Forge forge = new Forge();
        for (int version : new int[] {0, 1, 2, 256, 257}) {
            int got = taken(forge, packet(forge, 0xc1, version, forge.name0, 0, 60));
            check.due("version " + version, got, version == 1 ? 3 : 0);
        }
    }

    /** "4 REFUSED: kind 1 or 3": it, and what is behind it, is left. */
    private static void kindsOfPackets() throws Exception {
        Forge forge = new Forge();
        for (int kind = 0; kind < 4; kind++) {
            byte[] p = packet(forge, 0xc1 + 16 * kind, 1, forge.name0, 0, 60);
            // Kind 2 has no token: its LENGTH is the byte 0 of the token, which is less than 20.
            check.due("kind " + kind, taken(forge, p), kind == 0 ? 3 : 0);
        }
        for (int kind = 1; kind <= 3; kind += 2) {
            byte[] header = Keys.join(Keys.bytes(0xc1 + 16 * kind, 0, 0, 0, 1, 8), forge.firstName, Keys.bytes(8), forge.name0, Keys.bytes(64, 34));
            byte[] p = Keys.packet(forge.secrets[0][0], header, 0, Arrays.copyOf(PING, 16));
            check.due("kind " + kind + ", its LENGTH behind the names", taken(forge, p), 0);
        }
        byte[] middle = forge.packet(1, 0, 0, 60, PING);
        byte[] named = Keys.join(Arrays.copyOf(middle, 6), forge.firstName, Arrays.copyOfRange(middle, 14, middle.length));
        check.due("kind 2 without guards is left out, what is behind it is not", taken(forge, named), 2);
    }

    /** "5 NAME: a name of more than 20"; "if its name BY has not 8 bytes". */
    private static void namesBy() throws Exception {
        Forge forge = new Forge();
        for (int size : new int[] {0, 7, 8, 9, 19, 20, 21, 22, 255}) {
            byte[] by = Arrays.copyOf(forge.name0, size);
            int due = size == 8 ? 3 : size > 20 ? 0 : 2;
            check.due("a name BY of " + size, taken(forge, packet(forge, 0xc1, 1, by, 0, 300)), due);
        }
    }

    /** "with names TO and BY of 8 bytes": the guards of a name of another size would be there, but it is left out. */
    private static void namesTo() throws Exception {
        Forge forge = new Forge();
        byte[] firstKey = new byte[20];
        for (int i = 0; i < 20; i++) {
            firstKey[i] = (byte) (i + 1);
        }
        for (int size : new int[] {1, 7, 8, 9, 20, 21}) {
            byte[] name = Pairs.row(size, 77);
            forge.secrets[0][0] = Keys.label(4, Keys.mac(firstKey, name), Keys.NONE, 32);
            TransportPair x = asked();
            Forge.comes(x, 0, forge.named(0, 0, name, forge.name0, 1, 0, 1200, Forge.crypto(0, forge.hello)));
            check.due("a first name of " + size, x.look(1, 0), size == 8 ? 1 : 0);
            check.due("it came all the same", x.look(1, 6), 1200);
        }
    }

    /** "fewer bytes than LENGTH are left, or LENGTH is less than 20". */
    private static void lengths() throws Exception {
        Forge forge = new Forge();
        int head = 26;
        for (int numberSize = 1; numberSize <= 4; numberSize++) {
            byte[] p = packet(forge, 0xc0 + numberSize - 1, 1, forge.name0, 0, head + 20);
            check.due("LENGTH 20, a number of " + numberSize, taken(forge, p), numberSize == 4 ? 0 : 3);
            check.due("LENGTH 21, a number of " + numberSize, taken(forge, packet(forge, 0xc0 + numberSize - 1, 1, forge.name0, 0, head + 21)), 3);
        }
        byte[] right = packet(forge, 0xc0, 1, forge.name0, 0, head + 20);
        for (int length = 0; length < 20; length++) {
            byte[] p = right.clone();
            p[24] = 0x40;
            p[25] = (byte) length;
            check.due("LENGTH " + length, taken(forge, p), 0);
        }
        sampleBehindThePacket(forge);
        for (int more = -1; more <= 1; more++) {
            TransportPair x = asked();
            byte[] p = forge.packet(0, 0, 0, 1200, Forge.crypto(0, forge.hello));
            int length = 1200 - head + more;
            byte[] header = Keys.join(Arrays.copyOf(p, 24), Keys.bytes(64 + (length >> 8), length));
            header[0] = (byte) 0xc1;
            byte[] q = Keys.packet(forge.secrets[0][0], header, 0, Arrays.copyOf(Forge.crypto(0, forge.hello), length - 18));
            Forge.comes(x, 0, Arrays.copyOf(q, 1200));
            check.due("LENGTH of all that is left, and " + more, x.look(1, 4), more == 1 ? 0 : 20);
        }
    }

    /** A packet of LENGTH 19, whose sample ends a byte behind it, would open if its LENGTH were not looked at. */
    private static void sampleBehindThePacket(Forge forge) throws Exception {
        byte[] header = Keys.join(Keys.bytes(0xc0, 0, 0, 0, 1, 8), forge.firstName, Keys.bytes(8), forge.name0, Keys.bytes(0, 64, 19));
        byte[] second = forge.packet(0, 0, 1, 1200 - 45, Forge.crypto(0, forge.hello));
        byte[] head = Keys.join(header, Keys.bytes(0));
        byte[] sealed = Keys.crypt(javax.crypto.Cipher.ENCRYPT_MODE, forge.secrets[0][0], Keys.join(head, Keys.bytes(1, 1)), head.length, 0);
        byte[] p = Keys.join(head, sealed, second);
        Keys.shield(forge.secrets[0][0], p, header.length, true);
        TransportPair x = asked();
        Forge.comes(x, 0, p);
        check.due("a packet of LENGTH 19", x.look(1, 0), 0);
    }

    /** "INITIAL: D(n) a token". */
    private static void tokens() throws Exception {
        Forge forge = new Forge();
        for (int size : new int[] {0, 1, 63, 64, 500}) {
            byte[] token = Keys.join(Forge.number(size), Pairs.row(size, 5));
            byte[] names = Keys.join(Keys.bytes(0xc1, 0, 0, 0, 1, 8), forge.firstName, Keys.bytes(8), forge.name0, token);
            int length = 1200 - names.length - 2;
            byte[] header = Keys.join(names, Keys.bytes(64 + (length >> 8), length));
            byte[] p = Keys.packet(forge.secrets[0][0], header, 0, Arrays.copyOf(Forge.crypto(0, forge.hello), length - 18));
            TransportPair x = asked();
            Forge.comes(x, 0, p);
            check.due("a token of " + size, x.look(1, 4), 20);
        }
        byte[] names = Keys.join(Keys.bytes(0xc1, 0, 0, 0, 1, 8), forge.firstName, Keys.bytes(8), forge.name0);
        TransportPair x = asked();
        Forge.comes(x, 0, Arrays.copyOf(Keys.join(names, Forge.number(MOST)), 1200));
        check.due("a token that is longer than all", x.look(1, 0), 0);
        Forge.comes(x, 0, Arrays.copyOf(Keys.join(names, Forge.number(1200 - names.length - 2)), 1200));
        check.due("a token to the end", x.look(1, 0), 0);
    }

    private static final long MOST = 4611686018427387903L;

    /** "For a short one: 1 CUT: the name, or 20 bytes behind it, are not there." */
    private static void shortOnes() throws Exception {
        Forge forge = new Forge();
        TransportPair x = Pairs.still();
        Pairs.tape(x, 1, 1);
        x.raw(0);
        x.tick(1);
        check.due("the least of all", x.at(0, 0, -1), 9 + 20);
        Forge.comes(x, 0, forge.shortPacket(0, 2, 7, PING));
        check.due("a number of three bytes", x.space(1, 2, 7), 1);
        Forge.comes(x, 0, forge.shortPacket(0, 0, 8, Keys.bytes(1, 1, 1)));
        check.due("a number of one byte", x.space(1, 2, 7), 2);
        Forge.comes(x, 0, forge.shortPacket(0, 3, 9, Keys.NONE));
        check.due("a number of four bytes, and no frames", x.look(1, 1), 10);
        byte[] ahead = forge.packet(1, 0, 0, 60, PING);
        for (int size = 0; size <= 32; size++) {
            TransportPair y = Pairs.still();
            Pairs.tape(y, new byte[60 + size - 27]);
            y.raw(0);
            y.tick(1);
            byte[] whole = forge.shortPacket(0, 1, 5, new byte[Math.max(size - 27, 0)]);
            long ranges = y.space(1, 2, 6);
            Forge.comes(y, 0, Keys.join(ahead, Arrays.copyOf(whole, size)));
            check.due(size + " bytes behind one that is left out", y.space(1, 2, 6) - ranges, size >= 29 ? 1 : 0);
            check.due("no error", y.look(1, 1), 0);
        }
    }

    /** A short one's first byte is 64 .. 127 on the line, whatever hides it. */
    private static void firstBytesOfShortOnes() throws Exception {
        Forge forge = new Forge();
        boolean[] seen = new boolean[128];
        TransportPair x = Pairs.still();
        Pairs.tape(x, 1, 1, 1, 1);
        x.raw(0);
        x.tick(1);
        long came = x.space(1, 2, 7);
        for (int n = 1; n < 400; n++) {
            byte[] p = forge.shortPacket(0, 1 + n % 2 * 32, n, Keys.bytes(1, 1, 1, 1));
            if (!seen[p[0]]) {
                seen[p[0]] = true;
                came++;
                Forge.comes(x, 0, p);
                check.due("a first byte of " + p[0], x.space(1, 2, 7), came);
            }
        }
        check.isTrue("the least and the greatest were met", seen[64] && seen[127]);
    }

    /** "Reading it ends at the first that is wrong, or (6 OTHER) whose name TO is not that of the first." */
    private static void packetsOfADatagram() throws Exception {
        Forge forge = new Forge();
        byte[] spoiled = Forge.spoiled(packet(forge, 0xc1, 1, forge.name0, 0, 60), 40, 41);
        check.due("one that does not open is left out", taken(forge, spoiled), 2);
        byte[] three = Keys.join(packet(forge, 0xc1, 1, forge.name0, 0, 60), packet(forge, 0xc1, 1, forge.name0, 5, 60));
        TransportPair x = asked();
        Forge.comes(x, 0, Keys.join(three, forge.packet(0, 0, 9, 1200 - three.length, PING)));
        check.due("three packets", x.space(1, 0, 7), 3);
        TransportPair y = granted(forge);
        byte[] toFirst = forge.named(0, 0, forge.firstName, forge.name0, 1, 5, 600, PING);
        byte[] toOwn = forge.named(0, 0, forge.name1, forge.name0, 1, 6, 600, PING);
        Forge.comes(y, 0, Keys.join(toFirst, toOwn));
        check.due("another name TO ends it", y.space(1, 0, 7), 1);
        Forge.comes(y, 0, Keys.join(toOwn, toFirst));
        check.due("the other way round", y.space(1, 0, 7), 2);
        Forge.comes(y, 0, forge.named(0, 0, Forge.spoiled(forge.name1, 7, 8), forge.name0, 1, 7, 1200, PING));
        check.due("a name that is neither", y.space(1, 0, 7), 2);
        Forge.comes(y, 0, forge.named(0, 0, Forge.spoiled(forge.name1, 0, 1), forge.name0, 1, 7, 1200, PING));
        check.due("another first byte of the own one", y.space(1, 0, 7), 2);
        Forge.comes(y, 0, forge.named(0, 0, Forge.spoiled(forge.firstName, 0, 1), forge.name0, 1, 7, 1200, PING));
        check.due("another first byte of the first name", y.space(1, 0, 7), 2);
        Forge.comes(y, 0, forge.named(1, 0, forge.firstName, forge.name0, 1, 0, 1200, PING));
        check.due("in space 1 not the first name", y.look(1, 3), 0);
        Forge.comes(y, 0, forge.named(1, 0, forge.name1, Arrays.copyOf(forge.name0, 7), 1, 0, 1200, PING));
        check.due("nor a name BY of 7", y.look(1, 3), 0);
        Forge.comes(y, 0, forge.named(1, 0, forge.name1, Arrays.copyOf(forge.name0, 9), 1, 0, 1200, PING));
        check.due("nor of 9", y.look(1, 3), 0);
        Forge.comes(y, 0, forge.named(1, 0, forge.name1, Forge.spoiled(forge.name0, 0, 8), 1, 0, 1200, PING));
        check.due("but any of 8", y.look(1, 3), 1);
    }

    /** Side 1 has answered, nothing of space 1 has come there; a datagram of 1200 lies on way 0. */
    private static TransportPair granted(Forge forge) throws Exception {
        TransportPair x = asked();
        Forge.comes(x, 0, forge.packet(0, 0, 0, 1200, Forge.crypto(0, forge.hello)));
        x.tick(1);
        check.due("nothing pending", x.space(1, 0, 7), 0);
        return x;
    }

    /** "if it is of space 0, for side 1, and the datagram has fewer than 1200 bytes". */
    private static void datagramsForSideOne() throws Exception {
        Forge forge = new Forge();
        TransportPair x = asked();
        x.twice(0, 0);
        x.deliver(0, 0);
        x.tick(1);
        x.deliver(1, 0);
        x.open(0, true);
        Pairs.write(x, 0, 0, Pairs.row(3000, 0));
        x.tick(1);
        int full = -1;
        for (int k = 0; k < x.line(0, 0); k++) {
            full = x.at(0, k, -1) == 1198 ? k : full;
        }
        check.isTrue("one of 1198", full > 0);
        Forge.replace(x, 0, full, forge.packet(0, 0, 7, 1198, PING));
        x.deliver(0, full);
        check.due("1198 bytes", x.space(1, 0, 7), 0);
        check.due("they came", x.look(1, 6), 1200 + 1198);
        Forge.replace(x, 0, 0, forge.packet(0, 0, 7, 1200, PING));
        x.deliver(0, 0);
        check.due("1200 bytes", x.space(1, 0, 7), 1);
        TransportPair y = asked();
        y.close(0, 1);
        y.tick(1);
        check.due("a CLOSE of 48 bytes", y.at(0, 1, -1), 48);
        y.deliver(0, 1);
        check.due("is nothing to side 1, IDLE", y.look(1, 0) * 100 + y.look(1, 6), 48);
    }

    /** For side 0 there is no such limit. */
    private static void datagramsForSideZero() throws Exception {
        Forge forge = new Forge();
        TransportPair x = Pairs.begun();
        x.tick(301);
        x.deliver(0, 0);
        x.tick(1);
        x.deliver(0, 0);
        x.tick(1);
        int size = x.at(1, 1, -1);
        check.isTrue("an ACK alone", size < 60);
        Forge.replace(x, 1, 1, forge.packet(0, 1, 9, size, PING));
        x.deliver(1, 1);
        check.due("it opens there", x.space(0, 0, 7), 1);
    }

    /** "if its name TO is neither the own one nor, for side 1 in space 0, the first name". */
    private static void namesOfTheSide() throws Exception {
        Forge forge = new Forge();
        TransportPair x = asked();
        x.deliver(0, 0);
        x.tick(1);
        byte[] answer = Forge.crypto(0, forge.answer);
        Forge.comes(x, 1, forge.named(0, 1, forge.firstName, forge.name1, 1, 0, 1200, answer));
        check.due("the first name is not side 0's", x.look(0, 4), 2);
        Forge.comes(x, 1, forge.named(0, 1, forge.name1, forge.name1, 1, 0, 1200, answer));
        check.due("nor side 1's", x.look(0, 4), 2);
        Forge.comes(x, 1, forge.named(0, 1, forge.name0, forge.firstName, 1, 0, 1200, answer));
        check.due("the own one", x.look(0, 4), 8);
        x.tick(1);
        byte[] to = Arrays.copyOfRange(Pairs.datagram(x, 0, x.line(0, 0) - 1), 6, 14);
        check.isTrue("from then on it writes TO the name BY of that", Arrays.equals(to, forge.firstName));
        Forge.comes(x, 1, forge.named(0, 1, forge.name0, forge.name1, 1, 1, 1200, PING));
        x.tick(1);
        to = Arrays.copyOfRange(Pairs.datagram(x, 0, x.line(0, 0) - 1), 6, 14);
        check.isTrue("not that of a later one", Arrays.equals(to, forge.firstName));
        TransportPair y = Pairs.still();
        Pairs.tape(y, 1, 1);
        y.raw(0);
        y.tick(1);
        byte[] header = Keys.join(Keys.bytes(65), forge.firstName);
        Forge.comes(y, 0, Keys.packet(forge.secrets[2][0], header, 5, Keys.bytes(1, 1)));
        check.due("in space 2 not the first name", y.space(1, 2, 7), 0);
        header = Keys.join(Keys.bytes(65), forge.name1);
        Forge.comes(y, 0, Keys.packet(forge.secrets[2][0], header, 5, Keys.bytes(1, 1)));
        check.due("the own one", y.space(1, 2, 7), 1);
    }

    /** Side 1, once it has a first name, keeps to it. */
    private static void firstNames() throws Exception {
        Forge forge = new Forge();
        Forge other = new Forge();
        byte[] firstKey = new byte[20];
        for (int i = 0; i < 20; i++) {
            firstKey[i] = (byte) (i + 1);
        }
        byte[] name = Pairs.row(8, 200);
        other.secrets[0][0] = Keys.label(4, Keys.mac(firstKey, name), Keys.NONE, 32);
        TransportPair x = asked();
        Forge.comes(x, 0, other.named(0, 0, name, forge.name0, 1, 3, 1200, PING));
        check.due("any first name begins", x.look(1, 0) * 10 + x.space(1, 0, 7), 11);
        Forge.comes(x, 0, forge.packet(0, 0, 4, 1200, PING));
        check.due("then another one is left out", x.space(1, 0, 7), 1);
        Forge.comes(x, 0, other.named(0, 0, name, forge.name0, 1, 4, 1200, PING));
        check.due("but not that", x.space(1, 0, 7), 2);
        Forge.comes(x, 0, other.named(0, 0, forge.name1, forge.name0, 1, 5, 1200, PING));
        check.due("nor the own one", x.space(1, 0, 7), 3);
    }

    /** "the one with these lowest bytes that is nearest to that and 1; if two are, the greater one". */
    private static void numbersGrow() throws Exception {
        Forge forge = new Forge();
        long[] starts = {1000, 100000, 20000000, 3000000000L};
        for (int size = 1; size <= 4; size++) {
            long half = 1L << 8 * size - 1;
            long start = starts[size - 1];
            for (int step = -1; step <= 2; step++) {
                check.due(size + " bytes, up, " + step, opens(forge, start, start + 1 + half + step, size), step <= 0 ? 1 : 0);
                check.due(size + " bytes, down, " + step, opens(forge, start, start + 1 - half + step, size), step >= 1 ? 1 : 0);
            }
            check.due("the next one", opens(forge, start, start + 1, size), 1);
            check.due("the same one", opens(forge, start, start, size), 0);
        }
    }

    /** Behind a start that has come: whether a number cut to so many bytes opens. */
    private static long opens(Forge forge, long start, long number, int size) throws Exception {
        TransportPair x = asked();
        long from = 0;
        while (from < start) {
            from = Math.min(start, from + 2000000000L);
            Forge.comes(x, 0, forge.named(0, 0, forge.firstName, forge.name0, 3, from, 1200, PING));
        }
        long before = x.space(1, 0, 7);
        check.isTrue("the start has come", before > 0);
        Forge.comes(x, 0, forge.named(0, 0, forge.firstName, forge.name0, size - 1, number, 1200, PING));
        return x.space(1, 0, 7) - before;
    }

    /** "from the largest one received (-1 for none)": 0 is nearest at first, and none is below 0. */
    private static void numbersAtTheBeginning() throws Exception {
        Forge forge = new Forge();
        for (int size = 1; size <= 4; size++) {
            long wide = 1L << 8 * size;
            long[] numbers = {0, 1, wide / 2 - 1, wide / 2, wide - 1, wide};
            for (long n : numbers) {
                TransportPair x = asked();
                Forge.comes(x, 0, forge.named(0, 0, forge.firstName, forge.name0, size - 1, n, 1200, PING));
                check.due("number " + n + " in " + size + " bytes", x.look(1, 0), n < wide ? 1 : 0);
            }
        }
        check.due("down to 0", opens(forge, 100, 0, 1), 1);
        check.due("255, far off, but there is none below 0", opens(forge, 100, 255, 1), 1);
        check.due("not 256, of which 0 is nearer", opens(forge, 100, 256, 1), 0);
        check.due("up to 229", opens(forge, 100, 229, 1), 1);
        check.due("200, for which there is none below 0", opens(forge, 20, 200, 1), 1);
    }

    /** "if the bits 12 of its first byte (24 of a short one's) are not 0, or it has no frames, it closes with 10". */
    private static void bitsAndFrames() throws Exception {
        Forge forge = new Forge();
        for (int bits = 0; bits < 16; bits++) {
            TransportPair x = asked();
            Forge.comes(x, 0, forge.named(0, 0, forge.firstName, forge.name0, bits, 0, 1200, PING));
            check.due("bits " + bits + " of a long one", x.look(1, 1), (bits & 12) == 0 ? 0 : 10);
            check.due("its number has come, or not", x.space(1, 0, 7), (bits & 12) == 0 ? 1 : 0);
        }
        for (int bits = 0; bits < 64; bits++) {
            TransportPair x = Pairs.still();
            Pairs.tape(x, 1, 1, 1, 1);
            x.raw(0);
            x.tick(1);
            Forge.comes(x, 0, forge.shortPacket(0, bits, 9, new byte[5 - (bits & 3)]));
            check.due("bits " + bits + " of a short one", x.look(1, 1), (bits & 24) == 0 ? 0 : 10);
        }
        TransportPair y = asked();
        byte[] empty = packet(forge, 0xc3, 1, forge.name0, 0, 46);
        Forge.comes(y, 0, Keys.join(empty, forge.packet(0, 0, 1, 1154, PING)));
        check.due("no frames", y.look(1, 1), 10);
        check.due("it has begun by that", y.look(1, 0) * 10 + y.look(1, 5), 30);
    }

    /** "or if it does not open": no byte of it may be another one. */
    private static void alteredAnywhere() {
        altered(3);
        altered(50);
    }

    private static void altered(int raw) {
        TransportPair x = Pairs.still();
        byte[] bytes = new byte[raw];
        bytes[0] = 1;
        Pairs.tape(x, bytes);
        x.raw(0);
        x.tick(1);
        int size = x.at(0, 0, -1);
        long came = x.space(1, 2, 6) + x.space(1, 2, 7);
        for (int i = 0; i < size; i++) {
            for (int bit = 0; bit < 8; bit++) {
                x.twice(0, 0);
                x.alter(0, 0, i, 1 << bit);
                x.deliver(0, 0);
                check.due("byte " + i + ", bit " + bit, x.space(1, 2, 6) + x.space(1, 2, 7), came);
            }
        }
        x.deliver(0, 0);
        check.due("as it was", x.space(1, 2, 7), 1);
    }
}
