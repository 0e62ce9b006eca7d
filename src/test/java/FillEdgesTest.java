import java.util.Arrays;

/** FILLING a frame at its edges: what fits, in which order, and what becomes of it (promises 22, 25, 28, 29). */
public final class FillEdgesTest {
    private static final Check check = new Check();
    private static final int ROOM = 1200 - 9 - 4 - 16;
    private static final int[] WIDE = {1, 8, 64, 1, 9, 64};

    public static void main(String[] args) throws Exception {
        numbersInTheFewestBytes();
        roomOfReset();
        roomOfStop();
        roomOfMax();
        roomOfBlocked();
        roomOfTheEnd();
        roomOfBytes();
        wholeDatagrams();
        offsets();
        bothLimits();
        orderOfFrames();
        turnOfStreams();
        numbersOfTwoBytes();
        lostBytes();
        lostTwice();
        oneByteLost();
        allBytesLost();
        framesWithoutTheEnd();
        stopOfNoGrant();
        theEnd();
        dataBlocked();
        dataBlockedBefore();
        streamBlocked();
        streamsBlocked();
        streamsBlockedAtOnce();
        maxLost();
        stopAndResetLost();
        arrivedBehindLost();
        check.end();
    }

    private static byte[] frame(int kind, long... numbers) {
        return Forge.frame(kind, numbers);
    }

    private static void same(String what, byte[] got, byte[]... want) {
        byte[] all = Keys.join(want);
        check.isTrue(what + ": " + Arrays.toString(got) + ", due is " + Arrays.toString(all), Arrays.equals(got, all));
    }

    /** What is in the first datagram that side 0 sends in the next tick; all that is on the lines is dropped ahead. */
    private static byte[] sent(TransportPair x, Forge forge) throws Exception {
        Pairs.clear(x);
        x.tick(1);
        return x.line(0, 0) == 0 ? Keys.NONE : forge.inside(x, 0, 0);
    }

    /** Side 0 is told that its last packets, so many below the greatest one, have come. */
    private static void acknowledged(TransportPair x, int below, int more) {
        Pairs.rawNow(x, 1, frame(2, x.space(0, 2, 0) - 1 - below, 0, 0, more));
    }

    /** "below 64, 16384, 1073741824, or more": 1, 2, 4, 8 bytes. */
    private static void numbersInTheFewestBytes() throws Exception {
        int[][] rows = {{0, 1}, {63, 1}, {64, 2}, {16383, 2}, {16384, 4}, {1073741823, 4}, {1073741824, 8}, {Integer.MAX_VALUE, 8}};
        Forge forge = new Forge(WIDE);
        for (int[] row : rows) {
            TransportPair x = Pairs.still(Pairs.with(WIDE));
            x.open(0, true);
            x.reset(0, 0, row[0]);
            byte[] got = sent(x, forge);
            same("RESET with the code " + row[0], got, frame(4, 0, row[0], 0));
            check.due("its size", got.length, 3 + row[1]);
            check.due("size of the datagram", x.at(0, 0, -1), 9 + 2 + 3 + row[1] + 16);
            Pairs.pass(x, 0);
            check.due("read again", x.stream(1, 0, 14), row[0]);
        }
        for (int id = 60; id <= 64; id += 4) {
            TransportPair x = Pairs.still(Pairs.with(WIDE));
            for (int i = 0; i <= id / 4; i++) {
                x.open(0, true);
            }
            x.reset(0, id, 0);
            check.due("a stream's id " + id, sent(x, forge).length, id < 64 ? 4 : 5);
        }
        for (int size = 63; size <= 64; size++) {
            TransportPair x = Pairs.still(Pairs.with(WIDE));
            x.open(0, true);
            Pairs.write(x, 0, 0, Pairs.row(size, 0));
            check.due("a number of bytes " + size, sent(x, forge).length, size < 64 ? 3 + size : 4 + size);
            x.reset(0, 0, 0);
            same("SENT as size", sent(x, forge), frame(4, 0, 0, size));
            Pairs.pass(x, 0);
            check.due("the size over there", x.stream(1, 0, 12), size);
        }
    }

    /** All streams of side 0 are opened; RESETs of some from id 32 on are to be sent, of so many bytes in all. */
    private static TransportPair filledUp(TransportPair x, int bytes) {
        while (x.streams(0, 5) < 64) {
            x.open(0, true);
        }
        while (x.streams(0, 6) < 64) {
            x.open(0, false);
        }
        int[] codes = {1 << 30, 16384, 64, 0};
        int[] sizes = {12, 8, 6, 5};
        int left = bytes;
        for (int id = 32; id < 64; id += 2) {
            x.reset(0, id, 1 << 30);
            left -= 11;
        }
        for (int id = 64; left > 0; id += 2) {
            int best = 0;
            while (!isSum(left - sizes[best])) {
                best++;
            }
            x.reset(0, id, codes[best]);
            left -= sizes[best];
        }
        return x;
    }

    /** Whether some of 5, 6, 8 and 12 make a number. */
    private static boolean isSum(int n) {
        return n == 0 || n == 5 || n == 6 || n == 8 || n >= 10;
    }

    private static TransportPair leaving(int room) {
        return filledUp(Pairs.still(Pairs.with(WIDE)), ROOM - room);
    }

    /** "The first that there is in this order, .. and that fits": of two that wait, the one for which there is room goes ahead. */
    private static void roomOfReset() throws Exception {
        Forge forge = new Forge(WIDE);
        for (int room = 4; room <= 7; room++) {
            TransportPair x = leaving(room);
            x.reset(0, 252, 64);
            x.reset(0, 254, 63);
            x.tick(1);
            byte[] first = forge.inside(x, 0, 0);
            check.due("room " + room, first.length, ROOM - room + (room < 5 ? 0 : room < 6 ? 5 : 6));
            byte[] six = frame(4, 252, 64, 0);
            byte[] five = frame(4, 254, 63, 0);
            byte[] ahead = room < 5 ? Keys.NONE : room < 6 ? five : six;
            same("the last one", Arrays.copyOfRange(first, ROOM - room, first.length), ahead);
            same("the others", forge.inside(x, 0, 1), room < 5 ? Keys.join(six, five) : room < 6 ? six : five);
        }
    }

    private static void roomOfStop() throws Exception {
        Forge forge = new Forge(WIDE);
        for (int room = 2; room <= 5; room++) {
            TransportPair x = leaving(room);
            x.stop(0, 0, 64);
            x.stop(0, 4, 63);
            x.tick(1);
            byte[] first = forge.inside(x, 0, 0);
            byte[] four = frame(5, 0, 64);
            byte[] three = frame(5, 4, 63);
            byte[] ahead = room < 3 ? Keys.NONE : room < 4 ? three : four;
            same("room " + room, Arrays.copyOfRange(first, ROOM - room, first.length), ahead);
            same("the others", forge.inside(x, 0, 1), room < 3 ? Keys.join(four, three) : room < 4 ? four : three);
        }
    }

    private static void roomOfMax() throws Exception {
        int[] set = {1, 8, 64, 1, 9, 64, 0, 4, 40, 0, 6, 10};
        Forge forge = new Forge(set);
        byte[][] frames = {frame(16, 67), frame(17, 5, 15), frame(19, 9)};
        for (int room = 1; room <= 8; room++) {
            TransportPair x = Pairs.still(Pairs.with(set));
            Pairs.rawNow(x, 1, Keys.join(Forge.stream(5, 0, 5, false), frame(4, 3, 0, 27)));
            x.read(0, 5, 5);
            filledUp(x, ROOM - 5 - room);
            x.tick(1);
            byte[] first = forge.inside(x, 0, 0);
            byte[] ahead = room < 2 ? Keys.NONE : room < 3 ? frames[2] : room < 5 ? frames[0]
                : room < 6 ? Keys.join(frames[0], frames[2]) : room < 8 ? Keys.join(frames[0], frames[1]) : Keys.join(frames);
            same("MAX .. in a room of " + room, Arrays.copyOfRange(first, ROOM - room, first.length), ahead);
            byte[] others = room < 2 ? Keys.join(frames) : room < 3 ? Keys.join(frames[0], frames[1])
                : room < 5 ? Keys.join(frames[1], frames[2]) : room < 6 ? frames[1] : room < 8 ? frames[2] : Keys.NONE;
            check.due("how many datagrams", x.line(0, 0), room < 8 ? 2 : 1);
            if (room < 8) {
                same("the others", forge.inside(x, 0, 1), others);
            }
        }
    }

    private static void roomOfBlocked() throws Exception {
        int[][] sets = {{1, 8, 64, 1, 9, 64, 1, 4, 0}, {1, 8, 64, 1, 9, 64, 1, 6, 0}, WIDE};
        byte[][] frames = {frame(20, 0), frame(21, 0, 0), frame(22, 64)};
        for (int i = 0; i < 3; i++) {
            Forge forge = new Forge(sets[i]);
            for (int room = frames[i].length - 1; room <= frames[i].length; room++) {
                TransportPair x = filledUp(Pairs.still(Pairs.with(sets[i])), ROOM - room);
                if (i < 2) {
                    Pairs.write(x, 0, 0, Pairs.row(1, 0));
                } else {
                    x.open(0, true);
                }
                x.tick(1);
                byte[] first = forge.inside(x, 0, 0);
                boolean fits = room == frames[i].length;
                same("BLOCKED in a room of " + room, Arrays.copyOfRange(first, ROOM - room, first.length), fits ? frames[i] : Keys.NONE);
                check.due("how many datagrams", x.line(0, 0), fits ? 1 : 2);
                if (!fits) {
                    same("in the next one", forge.inside(x, 0, 1), frames[i]);
                }
            }
        }
    }

    /** "As many bytes as fit (one at least, but for the end alone)." */
    private static void roomOfTheEnd() throws Exception {
        Forge forge = new Forge(WIDE);
        for (int room = 2; room <= 4; room++) {
            TransportPair x = leaving(room);
            x.finish(0, 0);
            x.tick(1);
            byte[] end = frame(11, 0, 0);
            byte[] first = forge.inside(x, 0, 0);
            same("the end in a room of " + room, Arrays.copyOfRange(first, ROOM - room, first.length), room < 3 ? Keys.NONE : end);
            check.due("how many datagrams", x.line(0, 0), room < 3 ? 2 : 1);
            TransportPair y = leaving(room);
            y.finish(0, 252);
            y.tick(1);
            first = forge.inside(y, 0, 0);
            check.due("of an id of two bytes", first.length, ROOM - room + (room < 4 ? 0 : 4));
        }
        TransportPair x = leaving(3);
        Pairs.write(x, 0, 0, Pairs.row(9, 0));
        x.finish(0, 4);
        x.tick(1);
        byte[] first = forge.inside(x, 0, 0);
        same("one that fits goes ahead", Arrays.copyOfRange(first, ROOM - 3, first.length), frame(11, 4, 0));
        same("of the other not a byte fitted", forge.inside(x, 0, 1), frame(10, 0, 9), Pairs.row(9, 0));
    }

    private static void roomOfBytes() throws Exception {
        Forge forge = new Forge(WIDE);
        int[][] rows = {{3, 0}, {4, 1}, {5, 2}, {65, 62}, {66, 63}, {67, 63}, {68, 64}, {69, 65}};
        for (int[] row : rows) {
            TransportPair x = leaving(row[0]);
            Pairs.write(x, 0, 0, Pairs.row(200, 0));
            x.finish(0, 0);
            x.tick(1);
            byte[] first = forge.inside(x, 0, 0);
            byte[] ahead = row[1] == 0 ? Keys.NONE : Keys.join(frame(10, 0, row[1]), Pairs.row(row[1], 0));
            same("bytes in a room of " + row[0], Arrays.copyOfRange(first, ROOM - row[0], first.length), ahead);
            byte[] others = Arrays.copyOfRange(Pairs.row(200, 0), row[1], 200);
            byte[] head = row[1] == 0 ? frame(11, 0, 200) : frame(15, 0, row[1], 200 - row[1]);
            same("the others", forge.inside(x, 0, 1), head, others);
        }
        for (int room = 3; room <= 4; room++) {
            TransportPair x = leaving(room);
            Pairs.write(x, 0, 0, Pairs.row(1, 0));
            x.tick(1);
            check.due("one byte in a room of " + room, forge.inside(x, 0, 0).length, ROOM - room + (room < 4 ? 0 : 4));
            check.due("how many datagrams", x.line(0, 0), room < 4 ? 2 : 1);
        }
        for (int size = 62; size <= 65; size++) {
            TransportPair x = leaving(67);
            Pairs.write(x, 0, 0, Pairs.row(size, 0));
            x.tick(1);
            check.due(size + " bytes in a room of 67", forge.inside(x, 0, 0).length, ROOM - 67 + 3 + Math.min(size, 63));
            check.due("how many datagrams", x.line(0, 0), size > 63 ? 2 : 1);
        }
    }

    /** A packet's ROOM is 1171: one byte more goes in the next one. */
    private static void wholeDatagrams() throws Exception {
        Forge forge = new Forge();
        for (int size = ROOM - 5; size <= ROOM - 3; size++) {
            TransportPair x = Pairs.still();
            x.open(0, true);
            Pairs.write(x, 0, 0, Pairs.row(size, 0));
            x.tick(1);
            int fits = Math.min(size, ROOM - 4);
            same(size + " bytes", forge.inside(x, 0, 0), frame(10, 0, fits), Arrays.copyOf(Pairs.row(size, 0), fits));
            check.due("size of the datagram", x.at(0, 0, -1), 9 + 2 + 4 + fits + 16);
            check.due("how many", x.line(0, 0), size > fits ? 2 : 1);
        }
    }

    /** "b (if it is not 0)". */
    private static void offsets() throws Exception {
        Forge forge = new Forge(WIDE);
        for (int from : new int[] {0, 1, 63, 64}) {
            int head = from == 0 ? 3 : from < 64 ? 4 : 5;
            for (int room = head; room <= head + 1; room++) {
                TransportPair x = Pairs.still(Pairs.with(WIDE));
                x.open(0, true);
                Pairs.write(x, 0, 0, Pairs.row(from, 0));
                x.tick(1);
                Pairs.clear(x);
                filledUp(x, ROOM - room);
                Pairs.write(x, 0, 0, Pairs.row(2, 0));
                x.tick(1);
                byte[] first = forge.inside(x, 0, 0);
                check.due("offset " + from + ", room " + room, first.length, ROOM - room + (room > head ? room : 0));
            }
        }
    }

    /** "bytes not yet sent, as far as both limits allow". */
    private static void bothLimits() throws Exception {
        for (int limit = 9; limit <= 11; limit++) {
            TransportPair x = Pairs.still(Pairs.with(1, 6, limit));
            x.open(0, true);
            Pairs.write(x, 0, 0, Pairs.row(10, 0));
            x.tick(1);
            check.due("a stream's limit of " + limit, x.stream(0, 0, 2), Math.min(limit, 10));
            TransportPair y = Pairs.still(Pairs.with(1, 4, limit));
            y.open(0, true);
            y.open(0, true);
            Pairs.write(y, 0, 0, Pairs.row(4, 0));
            Pairs.write(y, 0, 4, Pairs.row(6, 0));
            y.tick(1);
            check.due("a limit of all data of " + limit, y.streams(0, 0), Math.min(limit, 10));
            check.due("the first", y.stream(0, 0, 2), 4);
            check.due("the second", y.stream(0, 4, 2), Math.min(limit - 4, 6));
        }
        TransportPair z = Pairs.still(Pairs.with(1, 4, 0));
        z.open(0, true);
        z.finish(0, 0);
        z.tick(1);
        check.due("the end needs no limit", z.stream(0, 0, 7), 2);
        TransportPair w = Pairs.still(Pairs.with(1, 6, 5));
        w.open(0, true);
        Pairs.write(w, 0, 0, Pairs.row(6, 0));
        w.finish(0, 0);
        w.tick(1);
        check.due("not the end ahead of the last byte", w.stream(0, 0, 7), 1);
    }

    /** All kinds in the order of the document, in one packet. */
    private static void orderOfFrames() throws Exception {
        int[] set = {1, 4, 12, 1, 6, 5, 1, 8, 4, 1, 9, 1, 0, 4, 40, 0, 6, 10, 0, 8, 2, 0, 9, 2};
        Forge forge = new Forge(set);
        TransportPair x = Pairs.still(Pairs.with(set));
        for (int i = 0; i < 4; i++) {
            x.open(0, true);
        }
        x.open(0, false);
        Pairs.rawNow(x, 1, frame(11, 1, 0));
        x.finish(0, 1);
        sent(x, forge);
        byte[] ack = frame(2, x.space(0, 2, 0) - 1, 0, 0, 0);
        Pairs.rawNow(x, 1, Keys.join(ack, Forge.stream(5, 0, 5, false), frame(4, 3, 0, 27)));
        x.read(0, 5, 5);
        x.open(0, true);
        x.open(0, false);
        x.reset(0, 8, 9);
        x.stop(0, 4, 7);
        Pairs.write(x, 0, 2, Pairs.row(7, 0));
        Pairs.write(x, 0, 0, Pairs.row(6, 0));
        same("in this order", sent(x, forge), frame(2, 2, 1, 0, 2), frame(4, 8, 9, 0), frame(5, 4, 7),
            frame(16, 67), frame(17, 5, 15), frame(18, 3), frame(19, 3),
            frame(22, 4), frame(23, 1), frame(10, 2, 7), Pairs.row(7, 0), frame(10, 0, 5), Pairs.row(5, 0),
            frame(20, 12), frame(21, 0, 5));
    }

    /** "from the id behind that of the last STREAM frame on (from 0 at first), round to that itself". */
    private static void turnOfStreams() throws Exception {
        Forge forge = new Forge(WIDE);
        TransportPair x = Pairs.still(Pairs.with(WIDE));
        for (int i = 0; i < 64; i++) {
            x.open(0, true);
            x.open(0, false);
        }
        int[][] turns = {{0, 4}, {254}, {0}, {2, 4}, {0, 4}, {254, 0}, {2, 254}, {2, 254}, {254}, {252, 254}};
        for (int i = 0; i < turns.length; i++) {
            byte[] want = Keys.NONE;
            for (int id : turns[i]) {
                long from = x.stream(0, id, 1);
                Pairs.write(x, 0, id, Pairs.row(1, i));
                want = Keys.join(want, from == 0 ? frame(10, id, 1) : frame(14, id, from, 1), Pairs.row(1, i));
            }
            same("turn " + i, sent(x, forge), want);
        }
        int[] set = {0, 8, 64, 0, 9, 64};
        TransportPair y = Pairs.still(Pairs.with(set));
        for (int i = 0; i < 64; i++) {
            y.open(1, false);
        }
        Pairs.write(y, 1, 255, Pairs.row(1, 0));
        Pairs.write(y, 1, 3, Pairs.row(1, 1));
        y.tick(1);
        same("from 0 at first", new Forge(set).inside(y, 1, 0), frame(10, 3, 1), Pairs.row(1, 1), frame(10, 255, 1), Pairs.row(1, 0));
    }

    /** "Its number is cut by GREATEST ACKNOWLEDGED of the space, but to 2 bytes at least (so it grows back to itself ..)". */
    private static void numbersOfTwoBytes() throws Exception {
        Forge forge = new Forge();
        for (int told = 0; told < 2; told++) {
            TransportPair x = Pairs.still();
            x.open(0, true);
            for (int i = 0; i < 300; i++) {
                Pairs.write(x, 0, 0, Pairs.row(1, i));
                byte[] got = sent(x, forge);
                check.due("byte " + i, got[got.length - 1], Pairs.row(1, i)[0]);
                boolean comes = told == 1 || i > 297;
                if (comes) {
                    Pairs.pass(x, 0);
                    check.due("it opens there", x.stream(1, 0, 11), i + 1);
                }
                if (told == 1) {
                    acknowledged(x, 0, 0);
                }
            }
            check.due("sent", x.space(0, 2, 0), 301);
            check.due("GREATEST ACKNOWLEDGED", x.space(0, 2, 1), told == 1 ? 300 : -1);
        }
    }

    /** "its first LOST bytes, those directly behind one another; or else bytes not yet sent". */
    private static void lostBytes() throws Exception {
        Forge forge = new Forge();
        TransportPair x = Pairs.still();
        x.open(0, true);
        byte[] row = Pairs.row(60, 0);
        for (int i = 0; i < 6; i++) {
            Pairs.write(x, 0, 0, Arrays.copyOfRange(row, 10 * i, 10 * i + 10));
            sent(x, forge);
        }
        long last = x.space(0, 2, 0) - 1;
        Pairs.write(x, 0, 0, Pairs.row(3, 9));
        Pairs.clear(x);
        Pairs.tape(x, frame(2, last, 0, 1, 1, 0, 0));
        x.raw(1);
        x.tick(1);
        Pairs.pass(x, 1);
        check.due("HERE", x.stream(0, 0, 6), 30);
        check.due("LOST", x.stream(0, 0, 5), 30);
        check.due("SENT", x.stream(0, 0, 2), 63);
        Pairs.write(x, 0, 0, Pairs.row(2, 5));
        byte[] got = sent(x, forge);
        same("the first, then the next ones, then new ones", got,
            frame(10, 0, 20), Arrays.copyOf(row, 20), frame(14, 0, 30, 10), Arrays.copyOfRange(row, 30, 40),
            frame(14, 0, 63, 2), Pairs.row(2, 5));
        check.due("none is LOST", x.stream(0, 0, 5), 0);
        Pairs.clear(x);
        long ping = x.space(0, 2, 0);
        Pairs.tape(x, 1, 1);
        x.raw(0);
        Pairs.tape(x, frame(2, ping, 0, 0, 0));
        x.raw(1);
        x.tick(1);
        Pairs.pass(x, 1);
        check.due("all of them are LOST again", x.stream(0, 0, 5), 35);
        same("from the first one on", sent(x, forge), frame(10, 0, 20), Arrays.copyOf(row, 20), frame(14, 0, 30, 10),
            Arrays.copyOfRange(row, 30, 40), frame(14, 0, 60, 5), Pairs.row(3, 9), Pairs.row(2, 5));
    }

    /** One byte alone may be lost, and is sent again. */
    private static void oneByteLost() throws Exception {
        Forge forge = new Forge();
        TransportPair x = Pairs.still();
        x.open(0, true);
        Pairs.write(x, 0, 0, Pairs.row(1, 7));
        sent(x, forge);
        Pairs.write(x, 0, 0, Pairs.row(1, 8));
        sent(x, forge);
        acknowledged(x, 0, 0);
        check.due("one is HERE, one LOST", x.stream(0, 0, 6) * 10 + x.stream(0, 0, 5), 11);
        same("sent again", sent(x, forge), frame(10, 0, 1), Pairs.row(1, 7));
        check.due("none is LOST", x.stream(0, 0, 5), 0);
    }

    /** "its first LOST bytes, those directly behind one another": up to the last that was written, however many there are. */
    private static void allBytesLost() throws Exception {
        Forge forge = new Forge();
        for (int size : new int[] {31, 32, 33, 63, 64, 65, 127, 128, 129, 256, 512, 1024}) {
            TransportPair x = Pairs.still();
            x.open(0, true);
            Pairs.write(x, 0, 0, Pairs.row(size, 1));
            byte[] first = sent(x, forge);
            Pairs.clear(x);
            x.tick((int) (x.space(0, 2, 3) - x.book(0, 0)));
            same(size + " bytes again", forge.inside(x, 0, 0), first);
            Pairs.pass(x, 0);
            check.due("all are there", x.stream(1, 0, 10), size);
        }
    }

    /** "STREAM: its bytes, and its end, are HERE": a frame without the end tells nothing of it. */
    private static void framesWithoutTheEnd() throws Exception {
        Forge forge = new Forge();
        for (int finished = 0; finished < 2; finished++) {
            TransportPair x = Pairs.still();
            x.open(0, true);
            Pairs.write(x, 0, 0, Pairs.row(3, 0));
            sent(x, forge);
            long number = x.space(0, 2, 0) - 1;
            if (finished == 1) {
                x.finish(0, 0);
                check.due("NEW", x.stream(0, 0, 7), 1);
                sent(x, forge);
            }
            Pairs.rawNow(x, 1, frame(2, number, 0, 0, 0));
            check.due("all bytes are HERE", x.stream(0, 0, 6), 3);
            check.due("the end is as it was", x.stream(0, 0, 7), finished == 0 ? 0 : 2);
            check.due("so is the state", x.stream(0, 0, 0), finished);
            if (finished == 1) {
                acknowledged(x, 0, 0);
                check.due("HERE, ARRIVED", x.stream(0, 0, 7) * 10 + x.stream(0, 0, 0), 42);
            }
        }
    }

    /** A STOP that is lost does not tell a GRANT, not even of 0. */
    private static void stopOfNoGrant() throws Exception {
        Forge forge = new Forge(0, 5, 0);
        TransportPair x = Pairs.still(Pairs.with(0, 5, 0));
        x.open(0, true);
        x.stop(0, 0, 3);
        same("STOP", sent(x, forge), frame(5, 0, 3));
        Pairs.clear(x);
        x.tick((int) (x.space(0, 2, 3) - x.book(0, 0)));
        same("STOP again", forge.inside(x, 0, 0), frame(5, 0, 3));
    }

    /** "LOST perhaps more than once": by a probe, and with both packets that had them. */
    private static void lostTwice() throws Exception {
        Forge forge = new Forge();
        TransportPair x = Pairs.still();
        x.open(0, true);
        Pairs.write(x, 0, 0, Pairs.row(8, 0));
        sent(x, forge);
        Pairs.clear(x);
        x.tick((int) (x.space(0, 2, 3) - x.book(0, 0)));
        same("sent again", forge.inside(x, 0, 0), frame(10, 0, 8), Pairs.row(8, 0));
        long ping = x.space(0, 2, 0);
        Pairs.clear(x);
        Pairs.tape(x, 1, 1);
        x.raw(0);
        Pairs.tape(x, frame(2, ping, 0, 0, 0));
        x.raw(1);
        x.tick(1);
        Pairs.pass(x, 1);
        check.due("eight bytes are LOST", x.stream(0, 0, 5), 8);
        same("and sent once", sent(x, forge), frame(10, 0, 8), Pairs.row(8, 0));
        check.due("none is LOST", x.stream(0, 0, 5), 0);
        same("no more", sent(x, forge));
    }

    /** "If the frame goes to the end of what is written, and it is FINISHED, its c is 1." */
    private static void theEnd() throws Exception {
        Forge forge = new Forge();
        TransportPair x = Pairs.still();
        x.open(0, true);
        Pairs.write(x, 0, 0, Pairs.row(3, 0));
        same("not finished", sent(x, forge), frame(10, 0, 3), Pairs.row(3, 0));
        x.finish(0, 0);
        same("the end alone", sent(x, forge), frame(15, 0, 3, 0));
        same("not again", sent(x, forge));
        check.due("the end is OUT", x.stream(0, 0, 7), 2);
        long number = x.space(0, 2, 0) - 1;
        Pairs.rawNow(x, 1, frame(2, number, 0, 0, 0));
        check.due("the end is HERE, its bytes are lost", x.stream(0, 0, 7) * 10 + x.stream(0, 0, 5), 43);
        check.due("FINISHED still", x.stream(0, 0, 0), 1);
        byte[] got = sent(x, forge);
        same("the bytes go with the end", got, frame(11, 0, 3), Pairs.row(3, 0));
        check.due("the end stays HERE", x.stream(0, 0, 7), 4);
        acknowledged(x, 0, 0);
        check.due("ARRIVED", x.stream(0, 0, 0), 2);
    }

    /** "DATA BLOCKED .. not again with the same limit (but if it was lost)". */
    private static void dataBlocked() throws Exception {
        int[] set = {1, 4, 10};
        Forge forge = new Forge(set);
        for (int size = 9; size <= 11; size++) {
            TransportPair x = Pairs.still(Pairs.with(set));
            x.open(0, true);
            Pairs.write(x, 0, 0, Pairs.row(size, 0));
            byte[] bytes = Keys.join(frame(10, 0, Math.min(size, 10)), Pairs.row(Math.min(size, 10), 0));
            same(size + " bytes", sent(x, forge), bytes, size > 10 ? frame(20, 10) : Keys.NONE);
            same("not again", sent(x, forge));
            if (size > 10) {
                Pairs.rawNow(x, 1, frame(2, 0, 0, 0, 0));
                sent(x, forge);
                x.open(0, true);
                Pairs.write(x, 0, 4, Pairs.row(1, 0));
                same("nor for another stream", sent(x, forge));
                Pairs.rawNow(x, 1, frame(16, 11));
                byte[] got = sent(x, forge);
                same("with another limit", Arrays.copyOfRange(got, 5, got.length), frame(10, 4, 1), Pairs.row(1, 0), frame(20, 11));
            }
        }
        TransportPair x = Pairs.still(Pairs.with(set));
        x.open(0, true);
        Pairs.write(x, 0, 0, Pairs.row(11, 0));
        sent(x, forge);
        Pairs.clear(x);
        x.tick((int) (x.space(0, 2, 3) - x.book(0, 0)));
        same("lost: the bytes and it again", forge.inside(x, 0, 0), frame(20, 10), frame(10, 0, 10), Pairs.row(10, 0));
        acknowledged(x, 1, 1);
        Pairs.clear(x);
        same("arrived: not again", sent(x, forge));
        x.reset(0, 0, 1);
        same("what is reset is not blocked", sent(x, forge), frame(4, 0, 1, 10));
    }

    /** ".. not again with the same limit (but if it was lost)": one with a limit before is lost, that of now is not. */
    private static void dataBlockedBefore() throws Exception {
        int[] set = {1, 4, 10};
        Forge forge = new Forge(set);
        TransportPair x = Pairs.still(Pairs.with(set));
        x.open(0, true);
        Pairs.write(x, 0, 0, Pairs.row(30, 0));
        same("blocked", sent(x, forge), frame(10, 0, 10), Pairs.row(10, 0), frame(20, 10));
        Pairs.rawNow(x, 1, frame(16, 20));
        byte[] got = sent(x, forge);
        byte[] want = Keys.join(frame(14, 0, 10, 10), Pairs.row(10, 70), frame(20, 20));
        same("blocked by the next limit", Arrays.copyOfRange(got, got.length - want.length, got.length), want);
        acknowledged(x, 0, 0);
        check.due("what went ahead is LOST", x.stream(0, 0, 5), 10);
        Pairs.clear(x);
        got = sent(x, forge);
        want = Keys.join(frame(10, 0, 10), Pairs.row(10, 0));
        same("its bytes alone go again", Arrays.copyOfRange(got, got.length - want.length, got.length), want);
        check.isTrue("behind an ACK at most", got.length == want.length || got.length == want.length + 5);
    }

    /** "STREAM DATA BLOCKED, if it has, and its SENT is its LIMIT". */
    private static void streamBlocked() throws Exception {
        int[] set = {1, 6, 10};
        Forge forge = new Forge(set);
        for (int size = 9; size <= 11; size++) {
            TransportPair x = Pairs.still(Pairs.with(set));
            x.open(0, true);
            Pairs.write(x, 0, 0, Pairs.row(size, 0));
            x.finish(0, 0);
            byte[] bytes = Keys.join(frame(size > 10 ? 10 : 11, 0, Math.min(size, 10)), Pairs.row(Math.min(size, 10), 0));
            same(size + " bytes", sent(x, forge), bytes, size > 10 ? frame(21, 0, 10) : Keys.NONE);
            same("not again", sent(x, forge));
            if (size > 10) {
                Pairs.rawNow(x, 1, frame(17, 0, 10));
                same("not with the same limit", sent(x, forge));
                Pairs.rawNow(x, 1, frame(17, 0, 11));
                byte[] got = sent(x, forge);
                same("with another limit all goes", Arrays.copyOfRange(got, 5, got.length), frame(15, 0, 10, 1), Arrays.copyOfRange(Pairs.row(11, 0), 10, 11));
            }
        }
        TransportPair x = Pairs.still(Pairs.with(1, 6, 0));
        x.open(0, true);
        same("a limit of 0, nothing written", sent(x, new Forge(1, 6, 0)));
        Pairs.write(x, 0, 0, Pairs.row(1, 0));
        same("a limit of 0", sent(x, new Forge(1, 6, 0)), frame(21, 0, 0));
        Pairs.clear(x);
        x.tick((int) (x.space(0, 2, 3) - x.book(0, 0)));
        same("lost: again", new Forge(1, 6, 0).inside(x, 0, 0), frame(21, 0, 0));
        acknowledged(x, 1, 1);
        same("arrived: not again", sent(x, new Forge(1, 6, 0)));
        TransportPair z = Pairs.still(Pairs.with(1, 4, 0));
        z.open(0, true);
        Pairs.write(z, 0, 0, Pairs.row(1, 0));
        same("a limit of all data of 0", sent(z, new Forge(1, 4, 0)), frame(20, 0));
        for (int i = 0; i < 2; i++) {
            Pairs.clear(z);
            z.tick((int) (z.space(0, 2, 3) - z.book(0, 0)));
            same("lost: again", new Forge(1, 4, 0).inside(z, 0, 0), frame(20, 0));
        }
        TransportPair y = Pairs.still(Pairs.with(1, 4, 10, 1, 6, 10));
        y.open(0, true);
        Pairs.write(y, 0, 0, Pairs.row(11, 0));
        same("both limits at once", sent(y, new Forge(1, 4, 10, 1, 6, 10)), frame(10, 0, 10), Pairs.row(10, 0), frame(20, 10), frame(21, 0, 10));
    }

    /** "STREAMS BLOCKED 22, 23, if an opening was refused by that limit (0 ahead of the parameters, too), which is it still". */
    private static void streamsBlocked() throws Exception {
        for (int way = 0; way < 2; way++) {
            int[] set = {1, 8 + way, 1};
            boolean both = way == 0;
            Forge forge = new Forge(set);
            TransportPair x = Pairs.still(Pairs.with(set));
            x.open(0, both);
            same("none was refused", sent(x, forge));
            x.open(0, both);
            same("one was refused", sent(x, forge), frame(22 + way, 1));
            x.open(0, both);
            same("not again with the same limit", sent(x, forge));
            Pairs.rawNow(x, 1, frame(18 + way, 2));
            same("the limit is another one", sent(x, forge));
            check.due("and allows it", x.open(0, both), 4 + 2 * way);
            x.open(0, both);
            byte[] got = sent(x, forge);
            same("refused by that", Arrays.copyOfRange(got, got.length - 2, got.length), frame(22 + way, 2));
            TransportPair y = Pairs.still(Pairs.with(set));
            y.open(0, both);
            y.open(0, both);
            Pairs.rawNow(y, 1, frame(18 + way, 2));
            check.due("in the same tick it went ahead", y.look(0, 9), 3);
            sent(y, forge);
            sent(y, forge);
            check.due("then no more", y.look(0, 9), 3);
        }
    }

    private static void streamsBlockedAtOnce() throws Exception {
        for (int limit = 0; limit < 2; limit++) {
            TransportPair x = Pairs.with(1, 8, limit, 1, 9, limit);
            x.open(0, true);
            x.open(0, false);
            Pairs.open(x, 1);
            check.due("refused ahead of the parameters, limit " + limit, x.look(0, 9), limit == 0 ? 4 : 2);
            TransportPair y = Pairs.with(1, 8, limit, 1, 9, limit);
            Pairs.open(y, 1);
            check.due("not refused, limit " + limit, y.look(0, 9), 2);
        }
        TransportPair x = Pairs.still(Pairs.with(1, 8, 64));
        for (int i = 0; i < 64; i++) {
            x.open(0, true);
        }
        Forge forge = new Forge(1, 8, 64);
        same("64 were opened", sent(x, forge));
        x.open(0, true);
        same("refused by 64", sent(x, forge), frame(22, 64));
        Pairs.clear(x);
        x.tick((int) (x.space(0, 2, 3) - x.book(0, 0)));
        same("lost: again", forge.inside(x, 0, 0), frame(22, 64));
    }

    /** "MAX .., lost: to be told again, if its number is the grant of now." */
    private static void maxLost() throws Exception {
        int[] set = {1, 4, 40, 1, 6, 10};
        Forge forge = new Forge(set);
        for (int more = 0; more < 2; more++) {
            TransportPair x = Pairs.still(Pairs.with(set));
            Pairs.rawNow(x, 0, Keys.join(Forge.stream(0, 0, 10, false), frame(4, 2, 1, 15)));
            x.read(1, 0, 5);
            Pairs.clear(x);
            x.tick(1);
            byte[] got = forge.inside(x, 1, 0);
            same("told", Arrays.copyOfRange(got, 5, got.length), frame(16, 60), frame(17, 0, 15), frame(19, 9));
            if (more == 1) {
                Pairs.rawNow(x, 0, frame(4, 6, 1, 20));
                Pairs.clear(x);
                x.tick(1);
                got = forge.inside(x, 1, 0);
                same("new ones", Arrays.copyOfRange(got, 5, got.length), frame(16, 80), frame(19, 10));
            }
            Pairs.clear(x);
            x.tick((int) (x.space(1, 2, 3) - x.book(1, 0)));
            byte[] again = more == 0 ? Keys.join(frame(16, 60), frame(17, 0, 15), frame(19, 9)) : frame(17, 0, 15);
            same("lost: again, if they are the grants of now", forge.inside(x, 1, 0), again);
            if (more == 0) {
                Pairs.clear(x);
                Pairs.rawNow(x, 0, Forge.stream(0, 10, 0, true));
                x.tick(26);
                Pairs.clear(x);
                x.tick((int) (x.space(1, 2, 3) - x.book(1, 0)));
                same("of a stream in the state 0 alone", forge.inside(x, 1, 0), frame(16, 60), frame(19, 9));
            }
        }
    }

    /** "RESET: .. if lost, it is to be sent again. STOP, lost: to be sent again." */
    private static void stopAndResetLost() throws Exception {
        Forge forge = new Forge();
        TransportPair x = Pairs.still();
        x.open(0, true);
        x.open(0, true);
        x.reset(0, 0, 5);
        x.stop(0, 4, 6);
        byte[] both = Keys.join(frame(4, 0, 5, 0), frame(5, 4, 6));
        same("both", sent(x, forge), both);
        for (int i = 0; i < 3; i++) {
            Pairs.clear(x);
            x.tick((int) (x.space(0, 2, 3) - x.book(0, 0)));
            same("lost, and sent again", forge.inside(x, 0, 0), both);
            check.due("RESET", x.stream(0, 0, 0), 3);
        }
        acknowledged(x, 1, 0);
        check.due("RESET HERE", x.stream(0, 0, 0), 4);
        Pairs.clear(x);
        x.tick((int) Math.max(x.space(0, 2, 3) - x.book(0, 0), 1));
        check.due("then it is not sent again", x.stream(0, 0, 0), 4);
        TransportPair y = Pairs.still();
        y.open(0, true);
        y.stop(0, 0, 6);
        sent(y, forge);
        Pairs.rawNow(y, 1, frame(11, 0, 0));
        Pairs.clear(y);
        y.tick((int) (y.space(0, 2, 3) - y.book(0, 0)));
        byte[] got = forge.inside(y, 0, 0);
        check.due("a STOP only in the states 0 and 1: PING, perhaps behind an ACK", got[got.length - 1], got.length > 2 ? 1 : 0);
        check.due("no STOP", y.look(0, 9), 3);
    }

    /** "LOST perhaps more than once, and ARRIVED behind it": what has arrived stays HERE. */
    private static void arrivedBehindLost() throws Exception {
        Forge forge = new Forge();
        TransportPair x = Pairs.still();
        x.open(0, true);
        Pairs.write(x, 0, 0, Pairs.row(8, 0));
        x.finish(0, 0);
        sent(x, forge);
        long first = x.space(0, 2, 0) - 1;
        Pairs.clear(x);
        x.tick((int) (x.space(0, 2, 3) - x.book(0, 0)));
        same("sent again", forge.inside(x, 0, 0), frame(11, 0, 8), Pairs.row(8, 0));
        Pairs.rawNow(x, 1, frame(2, first, 0, 0, 0));
        check.due("ARRIVED by the first packet", x.stream(0, 0, 0), 2);
        check.due("all HERE", x.stream(0, 0, 6), 8);
        acknowledged(x, 0, 0);
        check.due("the second one is lost: HERE all the same", x.stream(0, 0, 6) * 100 + x.stream(0, 0, 5), 800);
        TransportPair y = Pairs.still();
        y.open(0, true);
        Pairs.write(y, 0, 0, Pairs.row(8, 0));
        sent(y, forge);
        y.reset(0, 0, 3);
        sent(y, forge);
        acknowledged(y, 0, 0);
        check.due("lost when it is RESET", y.stream(0, 0, 5), 8);
        check.due("RESET HERE", y.stream(0, 0, 0), 4);
    }
}
