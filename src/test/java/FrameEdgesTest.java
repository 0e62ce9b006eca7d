import java.util.Arrays;

/** FRAMES, READING them, and what each of them does, at the edges (promises 16, 17 and 25). */
public final class FrameEdgesTest {
    private static final Check check = new Check();
    private static final long MOST = 4611686018427387903L;
    private static final long STREAMS = 1152921504606846976L;
    private static final int FRAME = 7;
    private static final int PROTOCOL = 10;
    private static final byte[] PINGS = {1, 1, 1};

    public static void main(String[] args) throws Exception {
        kinds();
        levels();
        cutAnywhere();
        sizesOfNumbers();
        padding();
        countsOfStreams();
        newName();
        token();
        endsOfStreams();
        endsOfCrypto();
        cryptoPlaces();
        rangesOfAck();
        countsOfAck();
        sixtyFourRanges();
        codesOfClose();
        framesOfOneSide();
        eachBeforeTheNext();
        challenge();
        rawSizes();
        rawAlone();
        check.end();
    }

    private static byte[] frame(int kind, long... numbers) {
        return Forge.frame(kind, numbers);
    }

    /** The reason for which a side closes by frames of the last level, or 0; what is raw is 4 bytes or more. */
    private static int reason(int to, byte[]... frames) {
        TransportPair x = Pairs.still();
        x.open(0, true);
        x.open(1, true);
        Pairs.rawNow(x, 1 - to, Keys.join(PINGS, Keys.join(frames)));
        int reason = x.look(to, 1);
        check.due("state", x.look(to, 0), reason == 0 ? 2 : reason < 10000 ? 3 : 4);
        return reason;
    }

    /** Side 0 has sent HELLO thrice: a datagram at level 0 for side 1 with these frames. */
    private static int first(Forge forge, byte[]... frames) throws Exception {
        TransportPair x = Pairs.begun();
        x.tick(1);
        Forge.comes(x, 0, forge.packet(0, 0, 0, 1200, frames));
        return x.look(1, 1);
    }

    /** The same at level 1 for side 0. */
    private static int middle(Forge forge, byte[]... frames) throws Exception {
        TransportPair x = Pairs.begun();
        x.tick(1);
        x.deliver(0, 0);
        x.tick(1);
        byte[] answers = forge.packet(0, 1, 0, 0, Forge.crypto(0, forge.answer));
        Forge.comes(x, 1, Keys.join(answers, forge.packet(1, 1, 0, 1200 - answers.length, frames)));
        return x.look(0, 1);
    }

    /** A frame of each kind, whole, and right for the one who gets it (the kinds 28 and 29 close). */
    private static byte[][] whole(int to) {
        int own = to;
        byte[] secret = new byte[16];
        return new byte[][] {
            {0}, {1}, frame(2, 0, 0, 0, 0), frame(3, 0, 0, 0, 0, 1, 2, 3), frame(4, 1 - to, 3, 4), frame(5, own, 3),
            frame(6, 0, 0), Keys.join(frame(7, 2), Keys.bytes(8, 9)), Keys.join(frame(8, 1 - to), Keys.bytes(8, 9)),
            frame(9, 1 - to), Keys.join(frame(10, 1 - to, 2), Keys.bytes(8, 9)), frame(11, 1 - to, 0),
            Keys.join(frame(12, 1 - to, 5), Keys.bytes(8, 9)), frame(13, 1 - to, 5),
            Keys.join(frame(14, 1 - to, 5, 2), Keys.bytes(8, 9)), frame(15, 1 - to, 5, 0), frame(16, 70000),
            frame(17, own, 70000), frame(18, 20), frame(19, 20), frame(20, 5), frame(21, 1 - to, 5), frame(22, 5),
            frame(23, 5), Keys.join(frame(24, 3, 2), Keys.bytes(4, 1, 2, 3, 4), secret), frame(25, 1),
            Keys.bytes(26, 1, 2, 3, 4, 5, 6, 7, 8), Keys.bytes(27, 1, 2, 3, 4, 5, 6, 7, 8),
            Keys.join(frame(28, 5, 6, 2), Keys.bytes(8, 9)), Keys.join(frame(29, 5, 2), Keys.bytes(8, 9)), {30}
        };
    }

    private static int due(int to, int kind) {
        boolean refused = kind == 25 || to == 1 && (kind == 7 || kind == 30);
        return refused ? PROTOCOL : kind == 28 ? 10005 : kind == 29 ? 20005 : 0;
    }

    /** "2 KIND: no such kind (the byte)". */
    private static void kinds() {
        for (int to = 0; to < 2; to++) {
            for (int kind = 0; kind <= 30; kind++) {
                check.due("kind " + kind + " to side " + to, reason(to, whole(to)[kind]), due(to, kind));
            }
            for (int kind : new int[] {31, 32, 63, 64, 127, 128, 192, 255}) {
                check.due("kind " + kind + " to side " + to, reason(to, Keys.bytes(kind), new byte[20]), FRAME);
            }
        }
    }

    /** "4 LEVEL: at the levels 0 and 1 none but 0, 1, 2, 3, 6, 28"; looked at behind KIND and ahead of CUT. */
    private static void levels() throws Exception {
        Forge forge = new Forge();
        for (int kind = 0; kind <= 32; kind++) {
            boolean allowed = kind < 4 || kind == 6 || kind == 28;
            byte[] bytes = kind > 30 ? Keys.bytes(kind) : kind == 2 || kind == 3 ? Keys.NONE : whole(1)[kind];
            int due = kind == 28 ? 10005 : allowed ? 0 : kind > 30 ? FRAME : PROTOCOL;
            check.due("kind " + kind + " at level 0", first(forge, bytes), due);
            byte[] alone = kind == 2 || kind == 3 ? Keys.NONE : kind == 28 ? whole(0)[28] : Keys.bytes(kind);
            check.due("kind " + kind + " at level 1", middle(forge, alone), due);
        }
        TransportPair x = Pairs.begun();
        x.tick(1);
        byte[] cut = Keys.join(new byte[1156 - 1], Keys.bytes(16));
        Forge.comes(x, 0, forge.packet(0, 0, 0, 1200, cut));
        check.due("LEVEL ahead of CUT", x.look(1, 1), PROTOCOL);
        x = Pairs.begun();
        x.tick(1);
        cut[1155] = 6;
        Forge.comes(x, 0, forge.packet(0, 0, 0, 1200, cut));
        check.due("CUT", x.look(1, 1), FRAME);
        x = Pairs.begun();
        x.tick(1);
        cut[1155] = 1;
        Forge.comes(x, 0, forge.packet(0, 0, 0, 1200, cut));
        check.due("a PING as the last byte", x.look(1, 1) * 10 + x.space(1, 0, 7), 1);
    }

    /** "1 CUT: the bytes are over within it (also a data that is longer)". */
    private static void cutAnywhere() {
        for (int kind = 2; kind <= 30; kind++) {
            byte[] f = whole(1)[kind];
            for (int size = 1; size < f.length; size++) {
                boolean open = (kind == 8 || kind == 12) && size > (kind == 8 ? 1 : 2);
                int due = open ? 0 : FRAME;
                check.due("kind " + kind + ", cut to " + size, reason(1, Arrays.copyOf(f, size)), due);
            }
        }
        check.due("data that is all there", reason(1, frame(10, 0, 2), Keys.bytes(5, 5)), 0);
        check.due("data that is one longer", reason(1, frame(10, 0, 3), Keys.bytes(5, 5)), FRAME);
        check.due("data that is far longer", reason(1, frame(10, 0, MOST), Keys.bytes(5, 5)), FRAME);
        check.due("a CLOSE whose text is there", reason(1, frame(29, 5, 2), Keys.bytes(5, 5)), 20005);
        check.due("a CLOSE whose text is one longer", reason(1, frame(29, 5, 3), Keys.bytes(5, 5)), FRAME);
        check.due("more ranges than there are bytes", reason(1, frame(2, 0, 0, MOST, 0)), FRAME);
        check.due("one range more than there is", reason(1, frame(2, 0, 0, 1, 0)), FRAME);
        check.due("a SIZE that is not there", reason(1, frame(2, 0, 0, 1, 0, 0)), FRAME);
    }

    /** "A NUMBER has 1, 2, 4 or 8 bytes"; "It may have more bytes than it needs". */
    private static void sizesOfNumbers() {
        byte[][] forms = {{25}, {0x40, 25}, {(byte) 0x80, 0, 0, 25}, {(byte) 0xc0, 0, 0, 0, 0, 0, 0, 25}};
        for (byte[] form : forms) {
            TransportPair x = Pairs.still();
            Pairs.rawNow(x, 0, Keys.join(PINGS, Keys.bytes(18), form));
            check.due("25 in " + form.length + " bytes", x.streams(1, 7), 25);
            for (int size = 1; size < form.length; size++) {
                check.due("cut to " + size, reason(1, Keys.bytes(18), Arrays.copyOf(form, size)), FRAME);
            }
            Pairs.rawNow(x, 0, Keys.join(Keys.bytes(14), new byte[] {0}, new byte[] {0}, form, Pairs.row(25, 3)));
            check.due("as a number of bytes", x.stream(1, 0, 10), 25);
        }
        long[] edges = {65537, 1073741823, 1073741824, 1073741825, MOST - 1, MOST};
        for (long n : edges) {
            TransportPair x = Pairs.still();
            Pairs.rawNow(x, 0, frame(16, n));
            check.due("MAX DATA " + n, x.streams(1, 1), n);
        }
        int[] small = {63, 64, 16383};
        for (int n : small) {
            TransportPair x = Pairs.still();
            Pairs.rawNow(x, 0, frame(4, 2, n, 0));
            check.due("a code of " + n, x.stream(1, 2, 14), n);
        }
    }

    /** "all bytes 0 up to the next other one are one frame". */
    private static void padding() {
        for (int size : new int[] {1, 2, 3, 999}) {
            TransportPair x = Pairs.still();
            long ranges = x.space(1, 2, 6);
            Pairs.rawNow(x, 0, new byte[size]);
            check.due(size + " of PADDING: nothing is pending", x.space(1, 2, 7), 0);
            check.due("but it has come", x.look(1, 0) * 10 + x.space(1, 2, 6), 20 + ranges);
            Pairs.rawNow(x, 0, Keys.join(new byte[size], Keys.bytes(1)));
            check.due("a PING behind it", x.space(1, 2, 7), 1);
        }
    }

    /** "In 18, 19, 22, 23 a is at most 1152921504606846976." */
    private static void countsOfStreams() {
        for (int kind : new int[] {18, 19, 22, 23}) {
            for (int more = -1; more <= 1; more++) {
                check.due("kind " + kind + ", " + more, reason(1, frame(kind, STREAMS + more)), more > 0 ? FRAME : 0);
            }
            check.due("kind " + kind + ", the most", reason(1, frame(kind, MOST)), FRAME);
        }
        for (int kind : new int[] {16, 20}) {
            check.due("kind " + kind + " may be more", reason(1, frame(kind, STREAMS + 1)), 0);
        }
    }

    /** "24 NEW NAME: n a, n b (not above a), x(1) 1 .. 20, so many bytes of data, and 16 bytes of SECRET." */
    private static void newName() {
        byte[] secret = new byte[16];
        for (int size = 0; size <= 22; size++) {
            byte[] f = Keys.join(frame(24, 1, 1), Keys.bytes(size), Pairs.row(size, 1), secret);
            check.due("a name of " + size, reason(1, f), size >= 1 && size <= 20 ? 0 : FRAME);
        }
        check.due("a name of 255", reason(1, frame(24, 1, 1), Keys.bytes(255), Pairs.row(255, 1), secret), FRAME);
        for (int b = 4; b <= 6; b++) {
            byte[] f = Keys.join(frame(24, 5, b), Keys.bytes(1, 9), secret);
            check.due("b " + b + " of a 5", reason(1, f), b > 5 ? FRAME : 0);
        }
        check.due("15 bytes of SECRET", reason(1, frame(24, 1, 1), Keys.bytes(1, 9), new byte[15]), FRAME);
    }

    /** "7 TOKEN: D(n), not empty." */
    private static void token() {
        check.due("an empty one to side 0", reason(0, frame(7, 0)), FRAME);
        check.due("an empty one to side 1", reason(1, frame(7, 0)), FRAME);
        check.due("one byte to side 0", reason(0, frame(7, 1), Keys.bytes(9)), 0);
        check.due("one byte to side 1", reason(1, frame(7, 1), Keys.bytes(9)), PROTOCOL);
        check.due("one that is cut", reason(0, frame(7, 2), Keys.bytes(9)), FRAME);
    }

    /** "For CRYPTO and STREAM, b + the bytes of data is a number, too." */
    private static void endsOfStreams() {
        for (int size = 0; size <= 2; size++) {
            byte[] data = Pairs.row(size, 0);
            for (int below = 0; below <= 2; below++) {
                int due = size > below ? FRAME : 3;
                check.due(size + " bytes, " + below + " below the most", reason(1, frame(14, 0, MOST - below, size), data), due);
                check.due("to the end of the packet", reason(1, frame(12, 0, MOST - below), data), due);
                check.due("with the end", reason(1, frame(13, 0, MOST - below), data), due);
            }
        }
    }

    /** "CRYPTO: at level 2: 266, if there is an offset or data, else nothing". */
    private static void endsOfCrypto() throws Exception {
        Forge forge = new Forge();
        for (int size = 0; size <= 1; size++) {
            byte[] data = Pairs.row(size, 0);
            check.due("at level 2, the most", reason(1, frame(6, MOST, size), data), size > 0 ? FRAME : 266);
            check.due("at level 2, one less", reason(1, frame(6, MOST - 1, size), data), 266);
            check.due("at level 2, offset 1", reason(1, frame(6, 1, size), data), 266);
            check.due("at level 2, offset 0", reason(1, frame(6, 0, size), data), size > 0 ? 266 : 0);
            check.due("at level 2, to side 0", reason(0, frame(6, 0, size), data), size > 0 ? 266 : 0);
            check.due("at level 0, the most", first(forge, frame(6, MOST, size), data), size > 0 ? FRAME : 13);
            check.due("at level 0, one less", first(forge, frame(6, MOST - 1, size), data), 13);
        }
    }

    /** "if offset and size are above 2048 together: 13". */
    private static void cryptoPlaces() throws Exception {
        Forge forge = new Forge();
        for (int size : new int[] {0, 1, 2, 1000}) {
            for (int more = -1; more <= 1; more++) {
                byte[] f = Forge.crypto(2048 - size + more, Pairs.row(size, 0));
                check.due(size + " bytes up to 2048 and " + more, first(forge, f), more > 0 ? 13 : 0);
                check.due("at level 1", middle(forge, f), more > 0 ? 13 : 0);
            }
        }
    }

    /** "the first range is a - FIRST .. a; .. its greatest is l - GAP - 2, its least SIZE less. None is below 0." */
    private static void rangesOfAck() {
        long[][] rows = {
            {5, 0, 0, 5, 0}, {5, 0, 0, 6, FRAME}, {0, 0, 0, 0, 0}, {0, 0, 0, 1, FRAME}, {6, 0, 0, 0, PROTOCOL}, {6, 0, 0, 7, FRAME},
        };
        for (long[] row : rows) {
            check.due("ACK " + Arrays.toString(row), acked(Arrays.copyOf(row, 4)), row[4]);
        }
        for (int l = 2; l <= 5; l++) {
            for (int gap = 0; gap <= 4; gap++) {
                for (int size = 0; size <= 4; size++) {
                    int due = l - gap - 2 - size < 0 ? FRAME : 0;
                    check.due("l " + l + ", GAP " + gap + ", SIZE " + size, acked(5, 0, 1, 5 - l, gap, size), due);
                }
            }
        }
        check.due("a GAP of the most", acked(5, 0, 1, 0, MOST, 0), FRAME);
        check.due("a SIZE of the most", acked(5, 0, 1, 0, 0, MOST), FRAME);
        check.due("a delay of the most", acked(5, MOST, 0, 0), 0);
        check.due("three ranges", acked(5, 0, 2, 0, 0, 0, 0, 1), 0);
        check.due("the third below 0", acked(5, 0, 2, 0, 0, 0, 0, 2), FRAME);
        TransportPair x = sixSent();
        Pairs.rawNow(x, 1, frame(2, 5, 0, 1, 0, 0, 1));
        check.due("HERE: the bytes of 5, 3 and 2", x.stream(0, 0, 6), 3);
        check.due("LOST: those of 1 and 4", x.stream(0, 0, 5), 2);
    }

    /** Side 0 has sent the numbers 0 .. 5, 1 .. 5 with a byte each. */
    private static TransportPair sixSent() {
        TransportPair x = Pairs.still();
        x.open(0, true);
        for (int i = 0; i < 5; i++) {
            Pairs.write(x, 0, 0, Pairs.row(1, i));
            x.tick(1);
        }
        Pairs.clear(x);
        check.due("sent", x.space(0, 2, 0), 6);
        return x;
    }

    private static int acked(long... numbers) {
        TransportPair x = sixSent();
        Pairs.rawNow(x, 1, frame(2, numbers));
        return x.look(0, 1);
    }

    /** "3 has three COUNTS more, n each." */
    private static void countsOfAck() {
        for (int counts = 0; counts <= 4; counts++) {
            long[] numbers = {0, 0, 0, 0, MOST, MOST, MOST, 1};
            TransportPair x = sixSent();
            Pairs.rawNow(x, 1, Keys.join(frame(3, Arrays.copyOf(numbers, 4 + counts)), counts > 3 ? Keys.NONE : Keys.bytes(1)));
            int due = counts < 2 ? FRAME : 0;
            if (counts == 2) {
                check.due("the PING counts as the third", x.look(0, 1) + x.space(0, 2, 7), 0);
            } else if (counts >= 3) {
                check.due("a PING behind the third", x.space(0, 2, 7), 1);
            } else {
                check.due(counts + " counts", x.look(0, 1), due);
            }
        }
        TransportPair x = sixSent();
        Pairs.rawNow(x, 1, frame(3, 0, 0, 0, 0, 1, 1));
        check.due("two counts", x.look(0, 1), FRAME);
    }

    /** "ACK: its first 64 ranges". */
    private static void sixtyFourRanges() {
        for (int ranges = 63; ranges <= 66; ranges++) {
            TransportPair x = Pairs.still();
            x.open(0, true);
            for (int i = 0; i < 140; i++) {
                Pairs.write(x, 0, 0, Pairs.row(1, i));
                x.tick(1);
                Pairs.clear(x);
            }
            long[] numbers = new long[4 + 2 * (ranges - 1)];
            numbers[0] = x.space(0, 2, 0) - 1;
            numbers[2] = ranges - 1;
            Pairs.rawNow(x, 1, frame(2, numbers));
            check.due("HERE by " + ranges + " ranges", x.stream(0, 0, 6), Math.min(ranges, 64));
            check.due("all others are lost", x.stream(0, 0, 5), 140 - Math.min(ranges, 64));
            check.due("no error", x.look(0, 1), 0);
        }
    }

    /** "its REASON is 10000 (kind 28) or 20000 (29) + the code (at most 9999)". */
    private static void codesOfClose() throws Exception {
        Forge forge = new Forge();
        for (long code : new long[] {0, 1, 9998, 9999, 10000, 16384, MOST}) {
            int counted = (int) Math.min(code, 9999);
            for (int to = 0; to < 2; to++) {
                check.due("CLOSE 28 with " + code, reason(to, frame(28, code, 0, 0)), 10000 + counted);
                check.due("CLOSE 28, kind of a frame " + code, reason(to, frame(28, 7, code, 0)), 10007);
                check.due("CLOSE 29 with " + code, reason(to, frame(29, code, 0)), 20000 + counted);
            }
            check.due("at level 0", first(forge, frame(28, code, 0, 0)), 10000 + counted);
            check.due("at level 1", middle(forge, frame(28, code, 0, 0)), 10000 + counted);
        }
    }

    /** "TOKEN, DONE: 10 for side 1. RETIRE: 10." */
    private static void framesOfOneSide() {
        check.due("DONE to side 0", reason(0, Keys.bytes(30)), 0);
        check.due("DONE to side 1", reason(1, Keys.bytes(30)), PROTOCOL);
        for (long a : new long[] {0, 1, MOST}) {
            check.due("RETIRE to side 0", reason(0, frame(25, a)), PROTOCOL);
            check.due("RETIRE to side 1", reason(1, frame(25, a)), PROTOCOL);
        }
    }

    /** "each is done before the next one is read; the first that is wrong closes"; "nothing more is done". */
    private static void eachBeforeTheNext() {
        TransportPair x = Pairs.still();
        Pairs.rawNow(x, 0, Keys.join(Forge.stream(0, 0, 3, false), Keys.bytes(31), Forge.stream(4, 0, 3, false)));
        check.due("what is ahead was done", x.stream(1, 0, 10), 3);
        check.due("what is behind was not", x.stream(1, 4, 10), -1);
        check.due("7", x.look(1, 1), FRAME);
        check.due("its number has not come", x.space(1, 2, 7), 0);
        TransportPair y = Pairs.still();
        Pairs.rawNow(y, 0, Keys.join(Forge.stream(0, 0, 3, false), frame(29, 1, 0), Forge.stream(0, 3, 3, false), Keys.bytes(31)));
        check.due("ahead of a CLOSE", y.stream(1, 0, 10), 3);
        check.due("the CLOSE counts", y.look(1, 1), 20001);
        check.due("nothing is pending", y.space(1, 2, 7), 0);
        TransportPair z = Pairs.still();
        Pairs.rawNow(z, 0, Keys.join(frame(10, 1, 0), frame(25, 0)));
        check.due("the first error counts", z.look(1, 1), 5);
    }

    /** "CHALLENGE: a RESPONSE with its word is to be sent (the latest counts)"; "x(8) a (any long)". */
    private static void challenge() throws Exception {
        Forge forge = new Forge();
        byte[][] words = {new byte[8], {-1, -1, -1, -1, -1, -1, -1, -1}, {-128, 0, 0, 0, 0, 0, 0, 0}, {127, -1, -1, -1, -1, -1, -1, -1}, {1, 2, 3, 4, 5, 6, 7, 8}};
        for (byte[] word : words) {
            TransportPair x = Pairs.still();
            Pairs.rawNow(x, 0, Keys.join(Keys.bytes(26, 9, 9, 9, 9, 9, 9, 9, 9), Keys.bytes(26), word));
            Pairs.clear(x);
            x.tick(1);
            byte[] got = forge.inside(x, 1, 0);
            check.isTrue("the latest word, behind an ACK", Arrays.equals(Arrays.copyOfRange(got, 5, got.length), Keys.join(Keys.bytes(27), word)));
            Pairs.clear(x);
            x.tick((int) x.space(1, 2, 3) - x.book(1, 0));
            check.isTrue("a RESPONSE that is lost is not sent again", forge.inside(x, 1, 0)[0] == 1);
        }
    }

    /** "or the tape has not 1 .. 1000 bytes"; "when it is not OPEN". */
    private static void rawSizes() {
        for (int size : new int[] {0, 1, 2, 999, 1000, 1001}) {
            TransportPair x = Pairs.still();
            Pairs.tape(x, new byte[size]);
            if (size < 1 || size > 1000) {
                check.refused("raw of " + size, x, IllegalArgumentException.class, () -> { x.raw(0); return 0; });
                continue;
            }
            x.raw(0);
            check.due("the tape is used up", Pairs.tapeSize(x), 0);
            x.tick(1);
            check.due("raw of " + size, x.at(0, 0, -1), 9 + 2 + Math.max(size, 2) + 16);
            check.due("counted", x.book(0, 1), x.at(0, 0, -1));
            x.tick(1);
            check.due("once", x.line(0, 0), 1);
        }
        for (int state = 0; state < 6; state++) {
            TransportPair x = EndEdgesTest.inState(0, state);
            Pairs.tape(x, 1, 1);
            if (state == 2) {
                x.raw(0);
                check.due("raw when OPEN", Pairs.tapeSize(x), 0);
            } else {
                check.refused("raw in the state " + state, x, IllegalStateException.class, () -> { x.raw(0); return 0; });
                check.refused("raw of no side", x, IllegalArgumentException.class, () -> { x.raw(2); return 0; });
                x.end(0);
                check.refused("raw of nothing", x, IllegalArgumentException.class, () -> { x.raw(0); return 0; });
            }
        }
    }

    /** "in the first datagram of the tick, with RAW bytes that fit in ROOM: these alone .. (others wait)". */
    private static void rawAlone() throws Exception {
        Forge forge = new Forge();
        TransportPair x = Pairs.still();
        Pairs.rawNow(x, 1, Keys.bytes(1, 1));
        x.open(0, true);
        Pairs.write(x, 0, 0, Pairs.row(5, 0));
        Pairs.tape(x, 27, 1, 2, 3, 4, 5, 6, 7, 8);
        x.raw(0);
        Pairs.clear(x);
        x.tick(1);
        check.due("two datagrams", x.line(0, 0), 2);
        check.isTrue("the raw bytes alone", Arrays.equals(forge.inside(x, 0, 0), Keys.bytes(27, 1, 2, 3, 4, 5, 6, 7, 8)));
        byte[] second = forge.inside(x, 0, 1);
        check.due("then the ACK and the others", second.length, 5 + 3 + 5);
        TransportPair y = Pairs.begun();
        y.tick(1);
        y.deliver(0, 0);
        y.tick(1);
        y.deliver(1, 0);
        Pairs.tape(y, new byte[1000]);
        y.raw(0);
        y.tick(1);
        check.due("behind packets of the spaces 0 and 1, if it fits", y.at(0, 0, -1), 136 + 9 + 2 + 1000 + 16);
        check.due("one datagram", y.line(0, 0), 1);
    }
}
