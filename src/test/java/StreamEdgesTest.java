import java.util.Arrays;
import java.util.NoSuchElementException;

/** The streams at their edges: promises 8 to 14, 28 and 29, TAKING a frame, and GRANTS GROW. */
public final class StreamEdgesTest {
    private static final Check check = new Check();
    private static final Class<IllegalArgumentException> ARGUMENT = IllegalArgumentException.class;
    private static final Class<NoSuchElementException> NONE = NoSuchElementException.class;
    private static final int STATE = 5;
    private static final int LIMIT = 4;
    private static final int FLOW = 3;
    private static final int SIZE = 6;
    private static final long MOST = 4611686018427387903L;

    public static void main(String[] args) throws Exception {
        noSuchSide();
        openUpToTheLimit();
        limitsOfCountsAreSixtyFour();
        idsOfStreams();
        writeStates();
        writtenBytes();
        finishStates();
        resetStatesAndCodes();
        stopStatesAndCodes();
        readSizes();
        outsPlaces();
        partsOfStreams();
        takenWithWrongState();
        takenBeyondTheLimit();
        takenWithWrongSize();
        takenBehindAnEmptyOne();
        takenBeyondTheFlow();
        errorsInTheirOrder();
        takenInLateStates();
        limitsNeverFall();
        dataGrantGrows();
        streamGrantGrows();
        countsGrow();
        check.end();
    }

    /** A raw packet of a side with these frames comes at once: the reason with which the other side closes, or 0. */
    private static int error(TransportPair x, int side, byte[]... frames) {
        Pairs.rawNow(x, side, Keys.join(frames));
        return x.look(1 - side, 1);
    }

    private static byte[] frame(int kind, long... numbers) {
        return Forge.frame(kind, numbers);
    }

    private static byte[] bytes(int id, long offset, int size) {
        return Forge.stream(id, offset, size, false);
    }

    private static byte[] end(int id, long offset, int size) {
        return Forge.stream(id, offset, size, true);
    }

    /** All that can be seen of the streams of a side. */
    private static String streams(TransportPair x, int side) {
        StringBuilder s = new StringBuilder();
        for (int what = 0; what < 14; what++) {
            s.append(x.streams(side, what)).append(' ');
        }
        for (int i = 0; i < 256 * 15; i++) {
            s.append(x.stream(side, i / 15, i % 15)).append(' ');
        }
        return s.toString();
    }

    /** Side 0 sends frames; side 1 closes with that error, and nothing of its streams has changed. */
    private static void wrong(String what, TransportPair x, int error, byte[]... frames) {
        String before = streams(x, 1);
        check.due(what, error(x, 0, frames), error);
        check.isTrue(what + ": nothing has changed", before.equals(streams(x, 1)));
    }

    private static void right(String what, TransportPair x, byte[]... frames) {
        check.due(what, error(x, 0, frames), 0);
    }

    /** "Throws IllegalArgumentException when there is no such side." */
    private static void noSuchSide() {
        TransportPair x = Pairs.still();
        x.open(0, true);
        Pairs.write(x, 0, 0, Pairs.row(9, 1));
        x.tick(1);
        Pairs.pass(x, 0);
        x.read(1, 0, 4);
        Pairs.tape(x, 1, 2, 3);
        for (int side : new int[] {-1, 2, Integer.MIN_VALUE, Integer.MAX_VALUE}) {
            check.refused("open " + side, x, ARGUMENT, () -> x.open(side, true));
            check.refused("write " + side, x, ARGUMENT, () -> x.write(side, 0));
            check.refused("finish " + side, x, ARGUMENT, () -> x.finish(side, 0) ? 1 : 0);
            check.refused("reset " + side, x, ARGUMENT, () -> x.reset(side, 0, 0) ? 1 : 0);
            check.refused("stop " + side, x, ARGUMENT, () -> x.stop(side, 0, 0) ? 1 : 0);
            check.refused("read " + side, x, ARGUMENT, () -> x.read(side, 0, 1));
            check.refused("stream " + side, x, ARGUMENT, () -> x.stream(side, 0, 0));
            check.refused("streams " + side, x, ARGUMENT, () -> x.streams(side, 0));
        }
        for (int what : new int[] {-1, 15, Integer.MIN_VALUE, Integer.MAX_VALUE}) {
            check.refused("stream, what " + what, x, ARGUMENT, () -> x.stream(0, 0, what));
        }
        for (int what : new int[] {-1, 14, Integer.MIN_VALUE, Integer.MAX_VALUE}) {
            check.refused("streams, what " + what, x, ARGUMENT, () -> x.streams(0, what));
        }
        check.due("the tape is as it was", x.write(0, 0), 3);
    }

    /** "its id; -1 when the limit does not allow it". */
    private static void openUpToTheLimit() {
        for (int limit : new int[] {0, 1, 2, 63, 64}) {
            for (int way = 0; way < 2; way++) {
                boolean both = way == 0;
                TransportPair x = Pairs.with(1, 8 + way, limit, 0, 8 + way, limit);
                check.due("none ahead of the parameters", x.open(0, both), -1);
                Pairs.still(x);
                for (int side = 0; side < 2; side++) {
                    for (int i = 0; i < limit; i++) {
                        check.due("open " + i + " of " + limit, x.open(side, both), 4 * i + 2 * way + side);
                    }
                    String before = streams(x, side);
                    check.due("one more than " + limit, x.open(side, both), -1);
                    check.isTrue("opens nothing", before.equals(streams(x, side)));
                    check.due("how many it has opened", x.streams(side, 5 + way), limit);
                    check.due("of the other way none", x.streams(side, 6 - way), 0);
                    check.due("the limit", x.streams(side, 7 + way), limit);
                }
            }
        }
    }

    /** "(8 and 9 count as 64 if they are more)"; "that limit is at least a, but at most 64". */
    private static void limitsOfCountsAreSixtyFour() throws Exception {
        for (long a : new long[] {15, 16, 17, 63, 64, 65, 1152921504606846976L}) {
            TransportPair x = Pairs.still();
            check.due("MAX STREAMS of BOTH " + a, error(x, 1, frame(18, a)), 0);
            check.due("limit of BOTH ways", x.streams(0, 7), Math.min(Math.max(a, 16), 64));
            check.due("not of ONE way", x.streams(0, 8), 8);
            check.due("MAX STREAMS of ONE " + a, error(x, 1, frame(19, a - 8)), 0);
            check.due("limit of ONE way", x.streams(0, 8), Math.min(Math.max(a - 8, 8), 64));
        }
        for (long told : new long[] {63, 64, 65, 1152921504606846976L}) {
            Forge names = new Forge();
            byte[] value = Forge.number(told);
            Forge forge = new Forge(Keys.NONE, Keys.join(Keys.bytes(0, 8), names.firstName, Keys.bytes(8, value.length), value,
                Keys.bytes(9, value.length), value, Keys.bytes(15, 8), names.name1));
            TransportPair x = Pairs.begun();
            x.tick(310);
            x.deliver(0, 0);
            x.tick(1);
            byte[] answers = forge.packet(0, 1, 0, 0, Forge.crypto(0, forge.answer));
            Forge.comes(x, 1, Keys.join(answers, forge.packet(1, 1, 0, 1200 - answers.length, Forge.crypto(0, forge.granted))));
            check.due("told " + told, x.streams(0, 7), Math.min(told, 64));
            check.due("told " + told + " of ONE way", x.streams(0, 8), Math.min(told, 64));
            for (int i = 0; i < Math.min(told, 64); i++) {
                x.open(0, false);
            }
            check.due("the last one's id", x.stream(0, 254, 0), told > 63 ? 0 : -1);
            check.due("none behind", x.open(0, false), -1);
        }
    }

    /** "STREAMS have an id 0 .. 255"; "-1 when there is no such part, or stream". */
    private static void idsOfStreams() {
        TransportPair x = Pairs.still(Pairs.with(1, 8, 64, 1, 9, 64, 0, 8, 64, 0, 9, 64));
        for (int i = 0; i < 64; i++) {
            for (int side = 0; side < 2; side++) {
                x.open(side, true);
                x.open(side, false);
            }
        }
        for (int id : new int[] {0, 1, 2, 3, 252, 253, 254, 255}) {
            boolean sends = id % 4 != 3;
            boolean gets = id % 4 == 1 || id % 4 == 0;
            check.due("write 0 to " + id, Pairs.write(x, 0, id, Pairs.row(1, 0)), sends && id % 2 == 0 ? 1 : -1);
            check.due("sending part of " + id + " on side 0", x.stream(0, id, 0), id % 2 == 0 ? 0 : -1);
            check.due("receiving part of " + id + " on side 0", x.stream(0, id, 8), gets && id % 2 == 0 ? 0 : -1);
        }
        for (int id : new int[] {-4, -2, -1, 256, 258, 260, Integer.MIN_VALUE, Integer.MAX_VALUE}) {
            Pairs.tape(x, 1);
            check.due("write to " + id, x.write(0, id), -1);
            check.due("uses the tape up", Pairs.tapeSize(x), 0);
            check.isTrue("finish " + id, !x.finish(0, id));
            check.isTrue("reset " + id, !x.reset(0, id, 1));
            check.isTrue("stop " + id, !x.stop(0, id, 1));
            check.due("read " + id, x.read(0, id, 1), -1);
            for (int what = 0; what < 15; what++) {
                check.due("stream " + id + ", " + what, x.stream(0, id, what), -1);
            }
        }
    }

    /** A pair in which side 0 has a stream 0 in a state of its sending part. */
    private static TransportPair inSendingState(int state) {
        TransportPair x = Pairs.still();
        x.open(0, true);
        Pairs.write(x, 0, 0, Pairs.row(3, 1));
        if (state == 1 || state == 2) {
            x.finish(0, 0);
        } else if (state > 2) {
            x.reset(0, 0, 7);
        }
        x.tick(1);
        if (state == 2 || state == 4) {
            x.flow(1);
            x.tick(40);
            x.flow(0);
        }
        check.due("state", x.stream(0, 0, 0), state);
        return x;
    }

    /** "-1 when it has no sending part in the state 0". */
    private static void writeStates() {
        for (int state = 0; state < 5; state++) {
            TransportPair x = inSendingState(state);
            check.due("write in the state " + state, Pairs.write(x, 0, 0, Pairs.row(2, 2)), state == 0 ? 2 : -1);
            check.due("written", x.stream(0, 0, 1), state == 0 ? 5 : 3);
            check.due("written in all", x.streams(0, 13), state == 0 ? 5 : 3);
            check.due("the tape", Pairs.tapeSize(x), 0);
            check.due("an empty tape", x.write(0, 0), state == 0 ? 0 : -1);
        }
    }

    /** "All bytes that one side writes are at most 65536"; "as many as there is room for, if not all". */
    private static void writtenBytes() {
        for (int more = 25535; more <= 25537; more++) {
            TransportPair x = Pairs.still();
            x.open(0, true);
            x.open(0, true);
            Pairs.write(x, 0, 0, Pairs.row(40000, 1));
            check.due("room for " + more, Pairs.write(x, 0, 4, Pairs.row(more, 2)), Math.min(more, 25536));
            check.due("all of them", x.streams(0, 13), Math.min(40000 + more, 65536));
            check.due("a byte more", Pairs.write(x, 0, 0, Pairs.row(1, 2)), more < 25536 ? 1 : 0);
            check.due("and no other", Pairs.write(x, 0, 0, Pairs.row(1, 2)), 0);
            check.due("65536", x.streams(0, 13), 65536);
            check.isTrue("it can be finished", x.finish(0, 0));
            x.open(1, true);
            check.due("side 1 has room of its own", Pairs.write(x, 1, 1, Pairs.row(9, 2)), 9);
        }
    }

    /** "A sending part in the state 0 is finished: true; false when there is none". */
    private static void finishStates() {
        for (int state = 0; state < 5; state++) {
            TransportPair x = inSendingState(state);
            String before = Pairs.sight(x);
            check.isTrue("finish in the state " + state, x.finish(0, 0) == (state == 0));
            check.due("state", x.stream(0, 0, 0), state == 0 ? 1 : state);
            check.isTrue("false changes nothing", state == 0 || before.equals(Pairs.sight(x)));
        }
    }

    /** "in the states 0, 1 is reset with a code"; "or code is below 0". */
    private static void resetStatesAndCodes() {
        for (int state = 0; state < 5; state++) {
            TransportPair x = inSendingState(state);
            String before = Pairs.sight(x);
            check.refused("reset with -1", x, ARGUMENT, () -> x.reset(0, 0, -1) ? 1 : 0);
            check.refused("reset with the least code", x, ARGUMENT, () -> x.reset(0, 0, Integer.MIN_VALUE) ? 1 : 0);
            check.refused("a wrong code for no stream", x, ARGUMENT, () -> x.reset(0, 4, -1) ? 1 : 0);
            check.isTrue("reset in the state " + state, x.reset(0, 0, 0) == state < 2);
            check.due("state", x.stream(0, 0, 0), Math.max(state, state < 2 ? 3 : 0));
            check.due("code", x.stream(0, 0, 4), state < 3 ? 0 : 7);
            check.isTrue("false changes nothing", state < 2 || before.equals(Pairs.sight(x)));
        }
        for (int code : new int[] {0, 1, Integer.MAX_VALUE}) {
            TransportPair x = inSendingState(0);
            check.isTrue("reset with " + code, x.reset(0, 0, code));
            Pairs.clear(x);
            x.tick(1);
            Pairs.pass(x, 0);
            check.due("code over there", x.stream(1, 0, 14), code);
        }
    }

    /** A pair in which side 1 has a stream 0 in a state of its receiving part. */
    private static TransportPair inReceivingState(int state) {
        TransportPair x = Pairs.still();
        right("ahead of the state", x, bytes(0, 0, 3));
        if (state == 1) {
            right("SIZED", x, end(0, 4, 1));
        } else if (state == 2 || state == 3) {
            right("WHOLE", x, end(0, 3, 0));
        } else if (state == 4) {
            right("RESET", x, frame(4, 0, 8, 3));
        }
        if (state == 3) {
            check.due("all of them", x.read(1, 0, 3), 3);
        }
        check.due("receiving state", x.stream(1, 0, 8), state);
        return x;
    }

    /** "for a receiving part in the states 0, 1: true; false when there is none, or for the second time". */
    private static void stopStatesAndCodes() {
        for (int state = 0; state < 5; state++) {
            TransportPair x = inReceivingState(state);
            check.refused("stop with -1", x, ARGUMENT, () -> x.stop(1, 0, -1) ? 1 : 0);
            check.refused("a wrong code for no stream", x, ARGUMENT, () -> x.stop(1, 4, -1) ? 1 : 0);
            int cargo = x.look(1, 9);
            check.isTrue("stop in the state " + state, x.stop(1, 0, 0) == state < 2);
            check.isTrue("for the second time", !x.stop(1, 0, 0));
            check.isTrue("with another code", !x.stop(1, 0, 1));
            x.tick(1);
            check.due("a STOP is sent", x.look(1, 9), cargo + (state < 2 ? 1 : 0));
            check.isTrue("when it was sent", !x.stop(1, 0, 2));
        }
        for (int code : new int[] {0, 1, Integer.MAX_VALUE}) {
            TransportPair x = Pairs.still();
            x.open(0, true);
            Pairs.write(x, 0, 0, Pairs.row(3, 1));
            x.tick(1);
            Pairs.pass(x, 0);
            check.isTrue("stop with " + code, x.stop(1, 0, code));
            x.tick(1);
            Pairs.pass(x, 1);
            check.due("it is reset over there", x.stream(0, 0, 0), 3);
            check.due("with that code", x.stream(0, 0, 4), code);
            x.tick(1);
            Pairs.pass(x, 0);
            check.isTrue("whatever became of the first", !x.stop(1, 0, 5));
        }
    }

    /** "at most so many"; "-1 without a receiving part, -2 when it is RESET"; "most is not 0 .. 2048". */
    private static void readSizes() {
        for (int state = 0; state < 5; state++) {
            TransportPair x = inReceivingState(state);
            check.refused("read -1", x, ARGUMENT, () -> x.read(1, 0, -1));
            check.refused("read 2049", x, ARGUMENT, () -> x.read(1, 0, 2049));
            check.refused("read 2049 of none", x, ARGUMENT, () -> x.read(1, 4, 2049));
            check.due("read 0 in the state " + state, x.read(1, 0, 0), state == 4 ? -2 : 0);
            check.refused("the OUT is empty", x, NONE, () -> x.outs(0));
            check.due("read 2 of 3", x.read(1, 0, 2), state == 4 ? -2 : state == 3 ? 0 : 2);
            check.due("read 2 of 1", x.read(1, 0, 2), state == 4 ? -2 : state == 3 ? 0 : 1);
            check.due("read 2 of none", x.read(1, 0, 2), state == 4 ? -2 : 0);
            check.due("READ", x.stream(1, 0, 9), state == 4 ? 0 : 3);
            check.due("state", x.stream(1, 0, 8), state == 2 ? 3 : state);
        }
        for (int most : new int[] {2047, 2048}) {
            TransportPair x = Pairs.open(1);
            x.open(0, true);
            Pairs.write(x, 0, 0, Pairs.row(2049, 4));
            x.tick(3);
            check.due("all came", x.stream(1, 0, 10), 2049);
            check.due("read " + most, x.read(1, 0, most), most);
            check.isTrue("the bytes", Arrays.equals(Pairs.out(x, most), Arrays.copyOf(Pairs.row(2049, 4), most)));
            check.refused("no byte more", x, NONE, () -> x.outs(most));
            check.due("read without a part", x.read(1, 4, most), -1);
            check.refused("the OUT is empty with -1", x, NONE, () -> x.outs(0));
            check.due("the others", x.read(1, 0, most), 2049 - most);
        }
        TransportPair x = inReceivingState(0);
        x.read(1, 0, 3);
        right("RESET", x, frame(4, 0, 8, 3));
        check.due("read of a RESET one", x.read(1, 0, 3), -2);
        check.refused("the OUT is empty with -2", x, NONE, () -> x.outs(0));
    }

    /** "eight at most"; "when there is no byte k". */
    private static void outsPlaces() {
        for (int size = 1; size < 18; size++) {
            TransportPair x = Pairs.still();
            right("bytes", x, bytes(0, 0, size));
            x.read(1, 0, size);
            byte[] row = Pairs.row(size, 0);
            for (int k = 0; k < size; k++) {
                long want = 0;
                for (int i = Math.min(size, k + 8) - 1; i >= k; i--) {
                    want = want << 8 | row[i] & 255;
                }
                check.due("outs(" + k + ") of " + size, x.outs(k), want);
            }
            int last = size;
            check.refused("outs(-1)", x, NONE, () -> x.outs(-1));
            check.refused("outs(size)", x, NONE, () -> x.outs(last));
            check.refused("outs far behind", x, NONE, () -> x.outs(Integer.MAX_VALUE));
            check.refused("outs far ahead", x, NONE, () -> x.outs(Integer.MIN_VALUE));
        }
    }

    /** "It has a SENDING PART on the sides that may send, a RECEIVING PART on those that may get." */
    private static void partsOfStreams() {
        TransportPair x = Pairs.still();
        x.open(0, true);
        x.open(0, false);
        right("all four are there", x, bytes(0, 0, 1), bytes(2, 0, 1));
        int[][] parts = {{0, 1, 1, 1, 1}, {2, 1, 0, 0, 1}, {4, 0, 0, 0, 0}, {6, 0, 0, 0, 0}};
        for (int[] row : parts) {
            for (int i = 0; i < 4; i++) {
                long seen = x.stream(i / 2, row[0], i % 2 * 8);
                check.due("stream " + row[0] + ", part " + i, seen < 0 ? 0 : 1, row[1 + i]);
            }
        }
        right("a later one, and all before it", x, frame(21, 12, 0));
        check.due("12 is there", x.stream(1, 12, 8) + x.stream(1, 8, 8) + x.stream(1, 4, 8), 0);
        check.due("16 is not", x.stream(1, 16, 8), -1);
        check.due("four of BOTH ways", x.streams(1, 9), 4);
        check.due("one of ONE way", x.streams(1, 10), 1);
        right("an earlier one again", x, frame(21, 4, 0));
        check.due("four still", x.streams(1, 9), 4);
        TransportPair y = Pairs.still(Pairs.with(0, 5, 105, 0, 6, 106, 0, 7, 107, 1, 5, 205, 1, 6, 206, 1, 7, 207));
        y.open(0, true);
        y.open(0, false);
        y.open(1, true);
        y.open(1, false);
        right("each is there on both sides", y, frame(21, 0, 0), frame(21, 2, 0));
        check.due("and there", error(y, 1, frame(21, 1, 0), frame(21, 3, 0)), 0);
        long[][] limits = {{206, 205, 207, -1}, {105, 106, -1, 107}};
        long[][] grants = {{105, 106, -1, 107}, {206, 205, 207, -1}};
        for (int side = 0; side < 2; side++) {
            for (int id = 0; id < 4; id++) {
                check.due("LIMIT of " + id + " on side " + side, y.stream(side, id, 3), limits[side][id]);
                check.due("GRANT of " + id + " on side " + side, y.stream(side, id, 13), grants[side][id]);
            }
        }
    }

    /** "STATE, if it opens on this side and is not there (also if a is above 255), or if this side has no part". */
    private static void takenWithWrongState() {
        int[] kinds = {4, 5, 8, 17, 21};
        for (int kind : kinds) {
            byte[] rest = kind == 4 ? Keys.bytes(0, 0) : kind == 8 ? Keys.NONE : Keys.bytes(0);
            boolean sends = kind == 5 || kind == 17;
            for (long id : new long[] {1, 3, 5, 253, 255, 257, 259, MOST, MOST - 2}) {
                wrong("kind " + kind + " of " + id, Pairs.still(), STATE, frame(kind, id), rest);
            }
            TransportPair x = Pairs.still();
            x.open(1, true);
            x.open(1, false);
            right("kind " + kind + " of 1, opened here", x, frame(kind, 1), rest);
            wrong("kind " + kind + " of 5, not opened", x, STATE, frame(kind, 5), rest);
            x = Pairs.still();
            x.open(1, true);
            x.open(1, false);
            if (sends) {
                right("kind " + kind + " of 3, which sends", x, frame(kind, 3), rest);
                wrong("kind " + kind + " of 7, not opened", x, STATE, frame(kind, 7), rest);
                wrong("kind " + kind + " of 2, which gets", Pairs.still(), STATE, frame(kind, 2), rest);
                wrong("STATE ahead of LIMIT", Pairs.still(), STATE, frame(kind, 34), rest);
            } else {
                wrong("kind " + kind + " of 3, which sends", x, STATE, frame(kind, 3), rest);
                right("kind " + kind + " of 2, which gets", Pairs.still(), frame(kind, 2), rest);
            }
            for (int count = 2; count <= 7; count++) {
                TransportPair z = Pairs.still();
                for (int i = 0; i < count; i++) {
                    z.open(1, true);
                }
                right("the last one opened", z, frame(kind, 4 * count - 3), rest);
                wrong("the next one", z, STATE, frame(kind, 4 * count + 1), rest);
            }
            TransportPair y = Pairs.still();
            check.due("side 0: kind " + kind + " of 0", error(y, 1, frame(kind, 0), rest), STATE);
            y = Pairs.still();
            check.due("side 0: kind " + kind + " of 256", error(y, 1, frame(kind, 256), rest), STATE);
            y = Pairs.still();
            check.due("side 0: kind " + kind + " of 257", error(y, 1, frame(kind, 257), rest), LIMIT);
        }
    }

    /** "LIMIT, if it opens on the other side and a / 4 is not below the number of such streams granted." */
    private static void takenBeyondTheLimit() {
        for (int kind : new int[] {4, 5, 8, 17, 21}) {
            byte[] rest = kind == 4 ? Keys.bytes(0, 0) : kind == 8 ? Keys.NONE : Keys.bytes(0);
            TransportPair x = Pairs.still();
            right("kind " + kind + " of 56", x, frame(kind, 56), rest);
            check.due("it is there, and all before it", x.streams(1, 9), 15);
            right("kind " + kind + " of 60", x, frame(kind, 60), rest);
            check.due("all that are granted", x.streams(1, 9), 16);
            wrong("kind " + kind + " of 64", x, LIMIT, frame(kind, 64), rest);
            wrong("kind " + kind + " of 252", Pairs.still(), LIMIT, frame(kind, 252), rest);
            wrong("kind " + kind + " of 256", Pairs.still(), LIMIT, frame(kind, 256), rest);
            wrong("kind " + kind + " of the most", Pairs.still(), LIMIT, frame(kind, MOST - 3), rest);
            wrong("none granted", Pairs.still(Pairs.with(1, 8, 0)), LIMIT, frame(kind, 0), rest);
            if (kind != 5 && kind != 17) {
                TransportPair y = Pairs.still();
                right("kind " + kind + " of 30", y, frame(kind, 30), rest);
                check.due("all of ONE way that are granted", y.streams(1, 10), 8);
                wrong("kind " + kind + " of 34", Pairs.still(), LIMIT, frame(kind, 34), rest);
            }
            TransportPair z = Pairs.still(Pairs.with(1, 8, 64));
            right("kind " + kind + " of 252, with 64", z, frame(kind, 252), rest);
            check.due("64 are there", z.streams(1, 9), 64);
            wrong("kind " + kind + " of 256, with 64", z, LIMIT, frame(kind, 256), rest);
        }
    }

    /** "SIZE, if SIZE is known and e is above it, or it is an end and e is another one; or .. below HIGHEST." */
    private static void takenWithWrongSize() {
        for (int e = 4; e <= 6; e++) {
            TransportPair x = Pairs.still();
            right("the size is 5", x, end(0, 4, 1));
            byte[] frame = bytes(0, e - 1, 1);
            if (e > 5) {
                wrong("bytes up to " + e, x, SIZE, frame);
                wrong("no bytes at " + e, sized(), SIZE, bytes(0, e, 0));
            } else {
                right("bytes up to " + e, x, frame);
                right("no bytes at " + e, x, bytes(0, e, 0));
                check.due("HIGHEST", x.stream(1, 0, 11), 5);
            }
            if (e != 5) {
                wrong("the end at " + e, sized(), SIZE, end(0, e - 1, 1));
                wrong("RESET at " + e, sized(), SIZE, frame(4, 0, 1, e));
            } else {
                right("the end at 5 again", sized(), end(0, 3, 2));
                right("RESET at 5", sized(), frame(4, 0, 1, 5));
            }
            TransportPair y = Pairs.still();
            right("five bytes", y, bytes(0, 4, 1));
            TransportPair z = Pairs.still();
            right("five bytes", z, bytes(0, 4, 1));
            if (e < 5) {
                wrong("an end below HIGHEST", y, SIZE, end(0, e, 0));
                wrong("RESET below HIGHEST", z, SIZE, frame(4, 0, 1, e));
            } else {
                right("an end at or above HIGHEST", y, end(0, e, 0));
                check.due("SIZE", y.stream(1, 0, 12), e);
                check.due("HIGHEST is it, too", y.stream(1, 0, 11), e);
                right("RESET at or above HIGHEST", z, frame(4, 0, 1, e));
                check.due("SIZE", z.stream(1, 0, 12), e);
                check.due("RECEIVED", z.streams(1, 2), e);
            }
        }
    }

    /** A SIZE of 0 is known, too. */
    private static void takenBehindAnEmptyOne() {
        byte[][] frames = {bytes(2, 0, 1), end(2, 0, 1), frame(4, 2, 0, 1), bytes(2, 1, 0)};
        for (byte[] frame : frames) {
            TransportPair x = Pairs.still();
            right("the size is 0", x, end(2, 0, 0));
            check.due("READ at once, and over", x.stream(1, 2, 8) * 100 + x.streams(1, 12), 309);
            right("nothing at 0", x, bytes(2, 0, 0), end(2, 0, 0), frame(4, 2, 0, 0));
            check.due("over only once", x.streams(1, 12), 9);
            wrong("behind it", x, SIZE, frame);
        }
        TransportPair y = Pairs.still();
        right("three bytes", y, bytes(2, 0, 3));
        y.read(1, 2, 3);
        check.due("not over yet", y.streams(1, 12), 8);
        right("the end, when all were handed out", y, end(2, 3, 0));
        check.due("over by that", y.streams(1, 12), 9);
    }

    private static TransportPair sized() {
        TransportPair x = Pairs.still();
        right("the size is 5", x, end(0, 4, 1));
        return x;
    }

    /** "FLOW, if e is above GRANT, or RECEIVED would come above the DATA GRANT." */
    private static void takenBeyondTheFlow() {
        int[] set = {1, 5, 11, 1, 6, 12, 1, 7, 13};
        int[] ids = {1, 0, 2};
        for (int i = 0; i < 3; i++) {
            int id = ids[i];
            int grant = 11 + i;
            for (int kind = 0; kind < 3; kind++) {
                TransportPair x = Pairs.still(Pairs.with(set));
                x.open(1, true);
                right("up to GRANT", x, upTo(kind, id, grant));
                check.due("HIGHEST", x.stream(1, id, 11), grant);
                x = Pairs.still(Pairs.with(set));
                x.open(1, true);
                wrong("one more than GRANT", x, FLOW, upTo(kind, id, grant + 1));
                x = Pairs.still(Pairs.with(set));
                x.open(1, true);
                wrong("the most", x, FLOW, kind == 2 ? frame(4, id, 0, MOST) : frame(kind == 1 ? 15 : 14, id, MOST, 0));
            }
        }
        for (int kind = 0; kind < 3; kind++) {
            TransportPair x = Pairs.still(Pairs.with(1, 4, 20));
            right("up to 12", x, bytes(0, 5, 7));
            right("what is below HIGHEST counts no more", x, bytes(0, 0, 5), bytes(0, 3, 9));
            right("up to the DATA GRANT", x, upTo(kind, 4, 8));
            check.due("RECEIVED", x.streams(1, 2), 20);
            right("nothing more", x, bytes(8, 0, 0), bytes(0, 12, 0));
            wrong("one more than the DATA GRANT", x, FLOW, upTo(kind, 8, 1));
            x = Pairs.still(Pairs.with(1, 4, 20));
            right("up to 12", x, bytes(0, 5, 7));
            wrong("at once", x, FLOW, upTo(kind, 4, 9));
            x = Pairs.still(Pairs.with(1, 4, 20));
            right("up to 12", x, bytes(0, 5, 7));
            wrong("in the same stream", x, FLOW, upTo(kind, 0, 21));
            x = Pairs.still(Pairs.with(1, 4, 20));
            right("up to 12", x, bytes(0, 5, 7));
            right("in the same stream", x, upTo(kind, 0, 20));
        }
    }

    /** A frame that goes up to a place: bytes, with the end, or a RESET. */
    private static byte[] upTo(int kind, int id, int e) {
        return kind == 0 ? bytes(id, e - 1, 1) : kind == 1 ? end(id, e - 1, 1) : frame(4, id, 0, e);
    }

    /** "the first one, in the order in which they are said": STATE, LIMIT, SIZE, FLOW. */
    private static void errorsInTheirOrder() {
        TransportPair x = Pairs.still(Pairs.with(1, 6, 10));
        right("the size is 10", x, end(0, 9, 1));
        wrong("SIZE ahead of FLOW", x, SIZE, bytes(0, 10, 1));
        x = Pairs.still(Pairs.with(1, 6, 10));
        right("the size is 10", x, end(0, 9, 1));
        wrong("SIZE ahead of FLOW, with RESET", x, SIZE, frame(4, 0, 0, 11));
        wrong("LIMIT ahead of FLOW", Pairs.still(Pairs.with(1, 6, 10)), LIMIT, bytes(64, 10, 1));
        wrong("STATE ahead of FLOW", Pairs.still(Pairs.with(1, 5, 10)), STATE, bytes(1, 10, 1));
        x = Pairs.still(Pairs.with(1, 6, 10));
        check.due("what is wrong behind what is right", error(x, 0, bytes(0, 0, 3), bytes(4, 0, 11), bytes(0, 3, 3)), FLOW);
        check.due("what is ahead of it was done", x.stream(1, 0, 10), 3);
        check.due("what is wrong was not", x.stream(1, 4, 8), -1);
    }

    /** "In the states 0 and 1 bytes that were not there come in"; "in the states 0 and 1 it is RESET". */
    private static void takenInLateStates() {
        for (int state = 0; state < 5; state++) {
            TransportPair x = inReceivingState(state);
            long size = x.stream(1, 0, 12);
            right("RESET at the size", x, frame(4, 0, 9, size < 0 ? 3 : size));
            check.due("RESET in the state " + state, x.stream(1, 0, 8), state < 2 ? 4 : state);
            check.due("its code", x.stream(1, 0, 14), state < 2 ? 9 : state == 4 ? 8 : 0);
            check.due("CONSUMED", x.streams(1, 3), state == 0 || state > 2 ? 3 : state == 1 ? 5 : 0);
            TransportPair y = inReceivingState(state);
            right("bytes again", y, bytes(0, 0, 3));
            check.due("READY in the state " + state, y.stream(1, 0, 10), 3);
            check.due("the state", y.stream(1, 0, 8), state);
            TransportPair z = Pairs.still();
            z.open(1, true);
            z.open(1, false);
            if (state == 1) {
                z.finish(1, 1);
            } else if (state > 2) {
                z.reset(1, 1, 4);
            }
            right("STOP", z, frame(5, 1, 6));
            check.due("reset by a STOP", z.stream(1, 1, 0), 3);
            check.due("its code, the first", z.stream(1, 1, 4), state > 2 ? 4 : 6);
            right("STOP again", z, frame(5, 1, 7));
            check.due("its code stays", z.stream(1, 1, 4), state > 2 ? 4 : 6);
        }
        bytesBehindAReset();
        TransportPair x = Pairs.still();
        right("a gap", x, end(0, 2, 1));
        check.due("SIZED", x.stream(1, 0, 8), 1);
        right("but one", x, bytes(0, 0, 1));
        check.due("SIZED still", x.stream(1, 0, 8), 1);
        right("all", x, bytes(0, 1, 1));
        check.due("WHOLE", x.stream(1, 0, 8), 2);
        x.read(1, 0, 2);
        check.due("WHOLE still", x.stream(1, 0, 8), 2);
        x.read(1, 0, 1);
        check.due("READ", x.stream(1, 0, 8), 3);
        TransportPair y = Pairs.still();
        right("three bytes", y, bytes(0, 0, 3));
        y.read(1, 0, 3);
        right("the end, when all were handed out", y, end(0, 3, 0));
        check.due("READ at once", y.stream(1, 0, 8), 3);
        TransportPair z = Pairs.still();
        right("the end of nothing", z, end(0, 0, 0));
        check.due("READ at once", z.stream(1, 0, 8), 3);
        check.due("SIZE 0", z.stream(1, 0, 12), 0);
    }

    /** "In the states 0 and 1 bytes that were not there come in": not in the state 4. */
    private static void bytesBehindAReset() {
        TransportPair x = Pairs.still();
        right("RESET", x, frame(4, 0, 9, 10));
        check.due("RESET, SIZE", x.stream(1, 0, 8) * 100 + x.stream(1, 0, 12), 410);
        right("bytes up to its size, and the end", x, bytes(0, 0, 4), end(0, 4, 6));
        check.due("none came in", x.stream(1, 0, 10), 0);
        check.due("RESET still", x.stream(1, 0, 8), 4);
        check.due("HIGHEST", x.stream(1, 0, 11), 10);
        check.due("read", x.read(1, 0, 10), -2);
    }

    /** "LIMIT is at least b"; "the limit of all data is at least a"; "that limit is at least a". */
    private static void limitsNeverFall() {
        for (int step = -1; step <= 1; step++) {
            TransportPair x = Pairs.still();
            x.open(1, true);
            right("MAX STREAM DATA", x, frame(17, 1, 16384 + step));
            check.due("LIMIT", x.stream(1, 1, 3), 16384 + Math.max(step, 0));
            right("MAX DATA", x, frame(16, 65536 + step));
            check.due("limit of all data", x.streams(1, 1), 65536 + Math.max(step, 0));
            right("MAX STREAMS", x, frame(18, 16 + step), frame(19, 8 + step));
            check.due("limit of BOTH", x.streams(1, 7), 16 + Math.max(step, 0));
            check.due("limit of ONE", x.streams(1, 8), 8 + Math.max(step, 0));
        }
        TransportPair x = Pairs.still();
        x.open(1, true);
        right("the most", x, frame(17, 1, MOST), frame(16, MOST));
        check.due("LIMIT, the most", x.stream(1, 1, 3), MOST);
        check.due("of all data, the most", x.streams(1, 1), MOST);
        right("0", x, frame(17, 1, 0), frame(16, 0), frame(18, 0), frame(19, 0));
        check.due("LIMIT stays", x.stream(1, 1, 3), MOST);
        check.due("of all data, too", x.streams(1, 1), MOST);
        String before = streams(x, 1);
        right("BLOCKED ones: nothing more", x, frame(20, 5), frame(21, 1, 9), frame(22, 3), frame(23, 3));
        check.isTrue("nothing has changed by them", before.equals(streams(x, 1)));
    }

    /** "if twice of what CONSUMED + grant 4 is above the DATA GRANT is grant 4 or more .. at most 65536, if this is more". */
    private static void dataGrantGrows() {
        int[][] rows = {{100, 49, 100, 0}, {100, 50, 150, 1}, {100, 51, 151, 1}, {101, 50, 101, 0}, {101, 51, 152, 1},
            {1, 0, 1, 0}, {1, 1, 2, 1}, {0, 0, 0, 0}, {65535, 32767, 65535, 0}, {65535, 32768, 65536, 1},
            {65536, 32768, 65536, 0}, {65536, 65536, 65536, 0}, {40000, 25535, 65535, 1}, {40000, 25536, 65536, 1},
            {40000, 25537, 65536, 1}};
        for (int[] row : rows) {
            TransportPair x = Pairs.still(Pairs.with(1, 4, row[0], 1, 6, 65536));
            int cargo = x.look(1, 9);
            right("a stream is reset", x, frame(4, 0, 0, row[1]));
            String what = "grant " + row[0] + ", " + row[1] + " consumed";
            check.due(what + ": CONSUMED", x.streams(1, 3), row[1]);
            check.due(what + ": DATA GRANT", x.streams(1, 4), row[2]);
            x.tick(1);
            check.due(what + ": to be told", x.look(1, 9), cargo + row[3]);
            Pairs.pass(x, 1);
            check.due(what + ": told", x.streams(0, 1), row[2]);
        }
        for (int grant : new int[] {20, 21}) {
            TransportPair x = Pairs.still(Pairs.with(1, 4, grant));
            right("bytes", x, bytes(0, 0, grant));
            x.read(1, 0, 9);
            check.due("less than half was read", x.streams(1, 4), grant);
            x.read(1, 0, 1);
            check.due("just half of " + grant, x.streams(1, 4), grant == 20 ? 30 : 21);
            x.read(1, 0, 1);
            check.due("then half of it once more", x.streams(1, 4), grant == 20 ? 30 : 32);
            right("a part that was read is reset", x, frame(4, 0, 0, grant));
            check.due("all of it counts", x.streams(1, 3), grant);
        }
    }

    /** "When bytes of a stream are read, and its state is 0: .. likewise for GRANT." */
    private static void streamGrantGrows() {
        int[] set = {1, 5, 20, 1, 6, 21, 1, 7, 22};
        int[] ids = {1, 0, 2};
        for (int i = 0; i < 3; i++) {
            int id = ids[i];
            int grant = 20 + i;
            int half = (grant + 1) / 2;
            TransportPair x = Pairs.still(Pairs.with(set));
            x.open(1, true);
            int cargo = x.look(1, 9);
            right("bytes", x, bytes(id, 0, grant));
            x.read(1, id, half - 1);
            check.due("less than half of " + grant, x.stream(1, id, 13), grant);
            x.read(1, id, 0);
            check.due("still", x.stream(1, id, 13), grant);
            x.read(1, id, 1);
            check.due("half of " + grant, x.stream(1, id, 13), grant + half);
            x.tick(1);
            check.due("MAX STREAM DATA", x.look(1, 9), cargo + 1);
            TransportPair y = Pairs.still(Pairs.with(set));
            y.open(1, true);
            right("bytes, and an end behind a gap", y, bytes(id, 0, half), end(id, half + 1, 1));
            y.read(1, id, half);
            check.due("in the state 1 it does not grow", y.stream(1, id, 13), grant);
        }
        for (int grant : new int[] {65535, 65536}) {
            TransportPair x = Pairs.open(Pairs.with(1, 6, grant, 1, 4, 65536), 1);
            x.open(0, true);
            Pairs.write(x, 0, 0, Pairs.row(32768, 1));
            x.tick(200);
            for (int i = 0; i < 15; i++) {
                check.due("read", x.read(1, 0, 2048), 2048);
            }
            x.read(1, 0, 2047);
            check.due("32767 of " + grant, x.stream(1, 0, 13), grant);
            int cargo = x.look(1, 9);
            x.read(1, 0, 1);
            check.due("32768 of " + grant + ": at most 65536", x.stream(1, 0, 13), 65536);
            x.tick(1);
            check.due("told, if it is more", x.look(1, 9), cargo + (grant == 65535 ? 1 : 0));
        }
    }

    /** "A stream .. is OVER when .. then the number of such streams granted grows by 1, at most to 64, .. told if it grew." */
    private static void countsGrow() {
        for (int grant = 62; grant <= 64; grant++) {
            TransportPair x = Pairs.still(Pairs.with(1, 9, grant));
            int cargo = x.look(1, 9);
            for (int i = 1; i <= 3; i++) {
                right("over", x, frame(4, 4 * i - 2, 0, 0));
                check.due(i + " over of " + grant, x.streams(1, 12), Math.min(grant + i, 64));
                check.due("of BOTH ways none", x.streams(1, 11), 16);
                x.tick(1);
                check.due("told if it grew", x.look(1, 9), cargo + Math.min(i, 64 - grant));
                Pairs.pass(x, 1);
                check.due("told", x.streams(0, 8), Math.min(grant + i, 64));
            }
        }
        for (int gets = 0; gets < 5; gets++) {
            for (int sends = 0; sends < 5; sends++) {
                TransportPair x = inReceivingState(gets);
                if (sends == 1 || sends == 2) {
                    x.finish(1, 0);
                } else if (sends > 2) {
                    x.reset(1, 0, 1);
                }
                x.tick(1);
                if (sends == 2 || sends == 4) {
                    Pairs.rawNow(x, 0, 2, (int) x.space(1, 2, 0) - 1, 0, 0, 0);
                }
                check.due("sending state", x.stream(1, 0, 0), sends);
                boolean over = gets > 2 && (sends == 2 || sends == 4);
                check.due("over with " + gets + ", " + sends, x.streams(1, 11), over ? 17 : 16);
            }
        }
        TransportPair x = Pairs.still();
        x.open(1, false);
        x.reset(1, 3, 1);
        x.tick(1);
        Pairs.rawNow(x, 0, 2, (int) x.space(1, 2, 0) - 1, 0, 0, 0);
        check.due("RESET HERE", x.stream(1, 3, 0), 4);
        check.due("one that this side opened is not counted", x.streams(1, 11) + x.streams(1, 12), 24);
        TransportPair y = inReceivingState(2);
        y.finish(1, 0);
        y.tick(1);
        Pairs.rawNow(y, 0, 2, (int) y.space(1, 2, 0) - 1, 0, 0, 0);
        check.due("arrived, not read", y.streams(1, 11), 16);
        y.read(1, 0, 2);
        check.due("not all read", y.streams(1, 11), 16);
        y.read(1, 0, 1);
        check.due("all read: over", y.streams(1, 11), 17);
        y.read(1, 0, 1);
        check.due("only once", y.streams(1, 11), 17);
    }
}
