import java.util.Arrays;

/** A packet's ROOM behind others of its datagram, filled by wide acknowledgements (promises 16, 22, 26 and 27). */
public final class RoomEdgesTest {
    private static final Check check = new Check();
    private static final long WIDE = 1500000000L;
    private static final byte[] PING = {1};

    public static void main(String[] args) throws Exception {
        asManyRangesAsFit();
        sizesOfGaps();
        roomOfAnAck();
        roomOfResponse();
        roomOfRaw();
        paddedAcknowledgement();
        check.end();
    }

    /** Numbers with gaps between: 0, then so many near, farther, and far from each other: 2, 3 and 9 bytes each in an ACK. */
    private static long[] numbers(int near, int farther, int far) {
        long[] all = new long[1 + near + farther + far];
        for (int i = 1; i < all.length; i++) {
            all[i] = all[i - 1] + (i <= near ? 2 : i <= near + farther ? 100 : WIDE);
        }
        return all;
    }

    /** An ACK of these with a delay of 1, and as many ranges as there is room for. */
    private static byte[] ack(long[] numbers, int room) {
        int last = numbers.length - 1;
        byte[] ranges = Keys.NONE;
        int more = 0;
        byte[] largest = Forge.number(numbers[last]);
        for (int i = last - 1; i >= 0; i--) {
            byte[] next = Keys.join(ranges, Forge.number(numbers[i + 1] - numbers[i] - 2), Keys.bytes(0));
            if (4 + largest.length + next.length > room) {
                break;
            }
            ranges = next;
            more++;
        }
        return Keys.join(Keys.bytes(2), largest, Keys.bytes(1, more, 0), ranges);
    }

    /** Side 0 is OPEN by packets of these numbers in the spaces 0 and 1, and has not yet sent any of space 1. */
    private static TransportPair open(Forge forge, long[] first, long[] middle) throws Exception {
        TransportPair x = Pairs.begun();
        x.tick(1);
        x.deliver(0, 0);
        x.tick(1);
        for (int i = 0; i < first.length; i++) {
            byte[] frames = i == 0 ? Forge.crypto(0, forge.answer) : PING;
            Forge.comes(x, 1, forge.named(0, 1, forge.name0, forge.name1, 3, first[i], 1200, frames));
        }
        for (int i = 0; i < middle.length; i++) {
            byte[] frames = i == 0 ? Forge.crypto(0, forge.granted) : PING;
            Forge.comes(x, 1, forge.named(1, 1, forge.name0, forge.name1, 3, middle[i], 1200, frames));
        }
        check.due("OPEN", x.look(0, 0), 2);
        check.due("ranges", x.space(0, 0, 6) * 100 + x.space(0, 1, 6), first.length * 100 + middle.length);
        return x;
    }

    private static void same(String what, byte[] got, byte[] want) {
        check.isTrue(what + ": " + Arrays.toString(got) + ", due is " + Arrays.toString(want), Arrays.equals(got, want));
    }

    /** "all ranges, the greatest first, or as many of these as fit"; "at most as many as fit beside 1 byte, the offset's, and 2". */
    private static void asManyRangesAsFit() throws Exception {
        Forge forge = new Forge();
        boolean[] met = new boolean[9];
        int[][] rows = {{0, 0}, {1, 0}, {0, 1}, {2, 0}, {1, 1}, {0, 2}, {2, 1}, {1, 2}, {2, 2}};
        for (int[] row : rows) {
            long[] first = numbers(row[0], row[1], 58);
            long[] middle = numbers(0, 0, 63);
            TransportPair x = open(forge, first, middle);
            Pairs.clear(x);
            x.tick(1);
            byte[] ack0 = ack(first, 1154);
            same("ACK in space 0", forge.insideLong(x, 0, 0, 0, 0), ack0);
            int used = 26 + 2 + ack0.length + 16;
            int room = 1200 - used - 25 - 4 - 16;
            byte[] ack1 = ack(middle, room);
            check.isTrue("not all", ack1.length < 12 + 9 * 63);
            int left = room - ack1.length;
            met[left] = true;
            byte[] crypto = left < 5 ? Keys.NONE : Forge.crypto(0, Arrays.copyOf(forge.done0, left - 4));
            same("ACK, and CRYPTO in the " + left + " bytes left", forge.insideLong(x, 0, 0, used, 1), Keys.join(ack1, crypto));
            check.due("the others go behind it", x.line(0, 0), 2);
            int size = Math.max(left - 4, 0);
            byte[] others = Forge.crypto(size, Arrays.copyOfRange(forge.done0, size, 36));
            same("in the next datagram", forge.insideLong(x, 0, 1, 0, 1), others);
            if (size > 0) {
                lostFromAPlaceOn(x, forge, others);
            }
        }
        for (int i = 0; i < 9; i++) {
            check.isTrue("met " + i + " bytes left", met[i]);
        }
    }

    /** The first packet of space 1 has come, the second is lost: its bytes of CRYPTO go again, and no others. */
    private static void lostFromAPlaceOn(TransportPair x, Forge forge, byte[] crypto) throws Exception {
        Pairs.clear(x);
        byte[] row = forge.named(1, 1, forge.name0, forge.name1, 3, 63 * WIDE + 1, 1200, Forge.frame(2, 0, 0, 0, 0));
        while (x.line(1, 0) == 0 || x.at(1, 0, -1) < 1200) {
            Pairs.clear(x);
            x.tick(100);
        }
        Forge.comes(x, 1, row);
        check.due("the first one has come", x.space(0, 1, 1), 0);
        Pairs.clear(x);
        x.tick(Math.max((int) x.space(0, 1, 3) - x.book(0, 0), 1));
        byte[] got = forge.insideLong(x, 0, 0, 0, 1);
        same("the bytes from there on", Arrays.copyOfRange(got, got.length - crypto.length, got.length), crypto);
    }

    /** "as many of these as fit", by the sizes of their gaps: 63 in one byte, 64 in two. */
    private static void sizesOfGaps() throws Exception {
        Forge forge = new Forge();
        long[] first = numbers(0, 0, 63);
        int used = 26 + 2 + ack(first, 1154).length + 16;
        int room = 1200 - used - 25 - 4 - 16;
        check.due("room", room, 532);
        for (int gap = 62; gap <= 65; gap++) {
            long[] middle = new long[64];
            for (int i = 1; i < 64; i++) {
                middle[i] = middle[i - 1] + (i <= 6 ? gap + 2 : WIDE);
            }
            TransportPair x = open(forge, first, middle);
            Pairs.clear(x);
            x.tick(1);
            byte[] ack1 = ack(middle, room);
            check.due("so many fit", ack1.length, 525 + 6);
            same("gaps of " + gap, forge.insideLong(x, 0, 0, used, 1), ack1);
        }
    }

    /** An ACK that is due goes as soon as it fits, with one range at least. */
    private static void roomOfAnAck() throws Exception {
        Forge forge = new Forge();
        for (int room = 2; room <= 8; room++) {
            int bytes = 454 - room;
            int far = bytes / 9;
            while ((bytes - 9 * far) % 2 != 0) {
                far--;
            }
            TransportPair x = open(forge, numbers(0, 0, 63), numbers((bytes - 9 * far) / 2, 0, far));
            for (int n = 0; n <= 2; n += 2) {
                Forge.comes(x, 1, forge.shortPacket(1, 3, n, Arrays.copyOf(PING, 1200 - 9 - 4 - 16)));
            }
            check.due("pending", x.space(0, 2, 7), 2);
            Pairs.clear(x);
            x.tick(1);
            int ahead = 44 + 12 + 9 * 63 + 43 + 12 + bytes + 39;
            byte[] all = Keys.bytes(2, 2, 1, 1, 0, 0, 0);
            byte[] one = Keys.bytes(2, 2, 1, 0, 0);
            check.due("datagrams", x.line(0, 0), room < 5 ? 2 : 1);
            same("ACK in a room of " + room, room < 5 ? forge.inside(x, 0, 1) : forge.inside(x, 0, 0, ahead), room == 5 || room == 6 ? one : all);
        }
    }

    /** "RESPONSE with 9 bytes left"; "with less than 4 there is none"; "an ACK that is not due, and nothing else: none". */
    private static void roomOfResponse() throws Exception {
        Forge forge = new Forge();
        byte[] word = {27, 1, 2, 3, 4, 5, 6, 7, 8};
        byte[] challenge = word.clone();
        challenge[0] = 26;
        for (int room = 2; room <= 16; room++) {
            int bytes = 454 - room;
            int far = bytes / 9;
            while ((bytes - 9 * far) % 2 != 0) {
                far--;
            }
            int near = (bytes - 9 * far) / 2;
            TransportPair x = open(forge, numbers(0, 0, 63), numbers(near, 0, far));
            Forge.comes(x, 1, forge.shortPacket(1, 3, 0, Arrays.copyOf(challenge, 1200 - 9 - 4 - 16)));
            check.due("pending", x.space(0, 2, 7), 1);
            Pairs.clear(x);
            x.tick(1);
            int first = 44 + 12 + 9 * 63;
            int middle = 43 + 12 + bytes + 39;
            check.due("room", 1200 - first - middle - 29, room);
            byte[] both = Keys.join(Keys.bytes(2, 0, 1, 0, 0), word);
            check.due("datagrams", x.line(0, 0), room < 14 ? 2 : 1);
            check.due("the first one", x.at(0, 0, -1), first + middle + (room < 14 ? 0 : 9 + 2 + 14 + 16));
            same("ACK and RESPONSE, with a room of " + room, room < 14 ? forge.inside(x, 0, 1) : forge.inside(x, 0, 0, first + middle), both);
            check.due("none is pending", x.space(0, 2, 7), 0);
        }
    }

    /** "with RAW bytes that fit in ROOM: these alone": if not, they wait for the next tick, not for the next datagram. */
    private static void roomOfRaw() throws Exception {
        Forge forge = new Forge();
        long[] first = numbers(20, 0, 20);
        long[] middle = numbers(3, 0, 0);
        int used = 44 + ack(first, 1154).length + 43 + ack(middle, 1000).length + 39;
        int room = 1200 - used - 29;
        check.isTrue("room", room < 1000 && room > 700);
        for (int more = -1; more <= 1; more++) {
            TransportPair x = open(forge, first, middle);
            x.open(0, true);
            Pairs.write(x, 0, 0, Pairs.row(3, 1));
            byte[] raw = new byte[room + more];
            raw[0] = 1;
            Pairs.tape(x, raw);
            x.raw(0);
            Pairs.clear(x);
            x.tick(1);
            byte[] stream = Keys.join(Keys.bytes(10, 0, 3), Pairs.row(3, 1));
            same(more + " more than the room", forge.inside(x, 0, 0, used), more > 0 ? stream : raw);
            check.due("datagrams", x.line(0, 0), more > 0 ? 1 : 2);
            if (more > 0) {
                Pairs.clear(x);
                x.tick(1);
                same("in the next tick", forge.inside(x, 0, 0), raw);
            } else {
                same("the others wait for the next datagram", forge.inside(x, 0, 1), stream);
            }
        }
    }

    /** "counted if eliciting or with PADDING": an ACK alone at the end of a datagram that PADDING makes 1200 bytes. */
    private static void paddedAcknowledgement() throws Exception {
        Forge forge = new Forge();
        TransportPair x = Pairs.begun();
        x.tick(299);
        x.deliver(0, 0);
        x.tick(1);
        byte[] answers = forge.packet(0, 1, 0, 0, Forge.crypto(0, forge.answer));
        Forge.comes(x, 1, Keys.join(answers, forge.packet(1, 1, 0, 1200 - answers.length, PING)));
        check.due("a probe is due in the next tick", x.space(0, 0, 3), 301);
        Pairs.clear(x);
        x.tick(1);
        check.due("one datagram", x.line(0, 0), 1);
        check.due("of 1200", x.at(0, 0, -1), 1200);
        byte[] first = forge.insideLong(x, 0, 0, 0, 0);
        same("ACK and HELLO again", first, Keys.join(Keys.bytes(2, 0, 1, 0, 0), Forge.crypto(0, forge.hello)));
        int used = 26 + 2 + first.length + 16;
        byte[] second = forge.insideLong(x, 0, 0, used, 1);
        same("an ACK, and PADDING", second, Arrays.copyOf(Keys.bytes(2, 0, 1, 0, 0), 1200 - used - 25 - 2 - 16));
        check.due("it is out, and not eliciting", x.space(0, 1, 4) * 10 + x.space(0, 1, 5), 10);
        check.due("but in flight", x.book(0, 1), 1200 - used);
        check.due("space 0 is discarded, with a probe that was due", x.space(0, 0, 9) * 10 + x.look(0, 8), 10);
    }
}
