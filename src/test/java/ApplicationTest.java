import java.util.Arrays;
import java.util.NoSuchElementException;

/** Promises 8 to 16: open, write, finish, reset, stop, read, outs, close, raw. */
public final class ApplicationTest {
    private static final Check check = new Check();
    private static final Class<IllegalArgumentException> ARGUMENT = IllegalArgumentException.class;
    private static final Class<IllegalStateException> STATE = IllegalStateException.class;

    public static void main(String[] args) {
        open();
        write();
        finish();
        reset();
        stop();
        read();
        outs();
        grants();
        blocked();
        close();
        raw();
        rawFaults();
        check.end();
    }

    private static void open() {
        TransportPair x = Pairs.ready();
        check.due("open ahead of the parameters", x.open(0, true), -1);
        check.refused("open(2)", x, ARGUMENT, () -> x.open(2, true));
        check.refused("open(-1)", x, ARGUMENT, () -> x.open(-1, false));
        Pairs.open(x, 1);
        for (int i = 0; i < 16; i++) {
            check.due("open both by side 0", x.open(0, true), 4 * i);
        }
        check.due("the seventeenth", x.open(0, true), -1);
        for (int i = 0; i < 8; i++) {
            check.due("open one by side 1", x.open(1, false), 4 * i + 3);
        }
        check.due("the ninth", x.open(1, false), -1);
        check.due("how many both", x.streams(0, 5), 16);
        check.due("how many one", x.streams(1, 6), 8);
        check.due("not there on the other side yet", x.stream(1, 0, 8), -1);
        Pairs.write(x, 0, 20, Pairs.row(3, 1));
        x.tick(3);
        check.due("a later one is there", x.stream(1, 20, 10), 3);
        check.due("and all before it", x.stream(1, 4, 10), 0);
        check.due("how many of the other's", x.streams(1, 9), 6);
        check.due("none behind it", x.stream(1, 24, 8), -1);
        check.due("a stream of one way has one part here", x.stream(1, 3, 8), -1);
        check.due("which sends", x.stream(1, 3, 0), 0);
    }

    private static void write() {
        TransportPair x = Pairs.open(2);
        x.open(0, false);
        Pairs.tape(x, 1, 2, 3);
        check.refused("write(2)", x, ARGUMENT, () -> x.write(2, 2));
        check.due("write into none", x.write(0, 6), -1);
        check.due("the tape is used up all the same", Pairs.tapeSize(x), 0);
        check.due("write nothing", x.write(0, 2), 0);
        check.due("write into what is received", Pairs.write(x, 1, 2, Pairs.row(2, 0)), -1);
        check.due("write to id -1", Pairs.write(x, 0, -1, Pairs.row(2, 0)), -1);
        check.due("write to id 256", Pairs.write(x, 0, 256, Pairs.row(2, 0)), -1);
        byte[] bytes = Pairs.row(40000, 5);
        check.due("write", Pairs.write(x, 0, 2, bytes), 40000);
        check.due("as many as there is room for", Pairs.write(x, 0, 2, bytes), 25536);
        check.due("written", x.stream(0, 2, 1), 65536);
        check.due("all written", x.streams(0, 13), 65536);
        check.due("no more room", Pairs.write(x, 0, 2, bytes), 0);
        check.due("nothing sent ahead of a tick", x.stream(0, 2, 2), 0);
        x.tick(1);
        check.due("a window's worth", x.stream(0, 2, 2), x.streams(0, 0));
        check.isTrue("in flight at least WINDOW", x.book(0, 1) >= x.book(0, 2));
        check.isTrue("but not a datagram more", x.book(0, 1) < x.book(0, 2) + 1200);
        byte[] got = new byte[0];
        for (int i = 0; i < 300 && got.length < 65536; i++) {
            x.tick(1);
            int n = x.read(1, 2, 2048);
            if (n > 0) {
                got = Arrays.copyOf(got, got.length + n);
                System.arraycopy(Pairs.out(x, n), 0, got, got.length - n, n);
            }
        }
        check.due("all of it comes", got.length, 65536);
        check.isTrue("as it was written", Arrays.equals(Arrays.copyOf(got, 40000), bytes)
            && Arrays.equals(Arrays.copyOfRange(got, 40000, 65536), Arrays.copyOf(bytes, 25536)));
    }

    private static void finish() {
        TransportPair x = Pairs.open(2);
        x.open(0, true);
        check.refused("finish(2)", x, ARGUMENT, () -> x.finish(2, 0) ? 1 : 0);
        check.isTrue("finish none", !x.finish(0, 4));
        check.isTrue("finish", x.finish(0, 0));
        check.isTrue("finish again", !x.finish(0, 0));
        check.due("state", x.stream(0, 0, 0), 1);
        check.due("end is NEW", x.stream(0, 0, 7), 1);
        check.due("write behind it", Pairs.write(x, 0, 0, Pairs.row(1, 1)), -1);
        x.tick(1);
        check.due("end is OUT", x.stream(0, 0, 7), 2);
        x.tick(2);
        check.due("size", x.stream(1, 0, 12), 0);
        check.due("an empty stream is READ at once", x.stream(1, 0, 8), 3);
        check.due("reading it", x.read(1, 0, 10), 0);
        x.tick(40);
        check.due("end is HERE", x.stream(0, 0, 7), 4);
        check.due("ARRIVED", x.stream(0, 0, 0), 2);
        check.isTrue("reset when it has arrived", !x.reset(0, 0, 1));
        check.isTrue("the other part is open", x.finish(1, 0));
        x.tick(60);
        check.due("it is over: one more granted", x.streams(1, 11), 17);
        check.due("and told", x.streams(0, 7), 17);
    }

    private static void reset() {
        TransportPair x = Pairs.open(2);
        x.open(0, true);
        Pairs.write(x, 0, 0, Pairs.row(100, 0));
        x.tick(1);
        Pairs.write(x, 0, 0, Pairs.row(100, 0));
        check.refused("reset(3, ..)", x, ARGUMENT, () -> x.reset(3, 0, 0) ? 1 : 0);
        check.refused("reset with -1", x, ARGUMENT, () -> x.reset(0, 0, -1) ? 1 : 0);
        check.isTrue("reset none", !x.reset(0, 4, 0));
        check.isTrue("reset", x.reset(0, 0, Integer.MAX_VALUE));
        check.isTrue("reset again", !x.reset(0, 0, 1));
        check.due("state", x.stream(0, 0, 0), 3);
        check.due("code", x.stream(0, 0, 4), Integer.MAX_VALUE);
        x.tick(3);
        check.due("the other side's state", x.stream(1, 0, 8), 4);
        check.due("its code", x.stream(1, 0, 14), Integer.MAX_VALUE);
        check.due("its size is what was sent", x.stream(1, 0, 12), 100);
        check.due("consumed counts the size", x.streams(1, 3), 100);
        check.due("read", x.read(1, 0, 100), -2);
        x.tick(40);
        check.due("RESET HERE", x.stream(0, 0, 0), 4);
    }

    private static void stop() {
        TransportPair x = Pairs.open(2);
        x.open(0, true);
        Pairs.write(x, 0, 0, Pairs.row(10, 0));
        x.tick(3);
        check.refused("stop(-1, ..)", x, ARGUMENT, () -> x.stop(-1, 0, 0) ? 1 : 0);
        check.refused("stop with -1", x, ARGUMENT, () -> x.stop(1, 0, -1) ? 1 : 0);
        check.isTrue("stop none", !x.stop(1, 4, 0));
        check.isTrue("stop", x.stop(1, 0, 77));
        check.isTrue("stop for the second time", !x.stop(1, 0, 78));
        check.due("the receiving part goes on", x.stream(1, 0, 8), 0);
        x.tick(3);
        check.due("it is reset over there", x.stream(0, 0, 0), 3);
        check.due("with that code", x.stream(0, 0, 4), 77);
        x.tick(3);
        check.due("and here", x.stream(1, 0, 8), 4);
        check.due("with that code, too", x.stream(1, 0, 14), 77);
        check.isTrue("stop what is reset", !x.stop(1, 0, 1));
        check.isTrue("a sending part of one way has nothing to stop", x.open(0, false) == 2 && !x.stop(0, 2, 1));
    }

    private static void read() {
        TransportPair x = Pairs.open(2);
        x.open(0, true);
        byte[] bytes = Pairs.row(300, 9);
        Pairs.write(x, 0, 0, bytes);
        x.finish(0, 0);
        x.tick(3);
        check.refused("read(2, ..)", x, ARGUMENT, () -> x.read(2, 0, 1));
        check.refused("read -1", x, ARGUMENT, () -> x.read(1, 0, -1));
        check.refused("read 2049", x, ARGUMENT, () -> x.read(1, 0, 2049));
        check.due("whole", x.stream(1, 0, 8), 2);
        check.due("read some", x.read(1, 0, 100), 100);
        check.isTrue("they are the first", Arrays.equals(Pairs.out(x, 100), Arrays.copyOf(bytes, 100)));
        check.due("READ", x.stream(1, 0, 9), 100);
        check.due("consumed", x.streams(1, 3), 100);
        check.due("read without a part", x.read(1, 2, 100), -1);
        check.refused("the OUT is empty then", x, NoSuchElementException.class, () -> x.outs(0));
        check.due("read 0", x.read(1, 0, 0), 0);
        check.due("read the others", x.read(1, 0, 2048), 200);
        check.isTrue("they are the last", Arrays.equals(Pairs.out(x, 200), Arrays.copyOfRange(bytes, 100, 300)));
        check.due("all handed out", x.stream(1, 0, 8), 3);
        check.due("read at the end", x.read(1, 0, 5), 0);
        check.due("read of id 300", x.read(1, 300, 5), -1);
        check.due("read of id -4", x.read(1, -4, 5), -1);
    }

    private static void outs() {
        TransportPair x = Pairs.open(2);
        x.open(0, true);
        Pairs.write(x, 0, 0, new byte[] {1, 2, 3, 4, 5, 6, 7, (byte) 128, 9, (byte) 255});
        x.tick(3);
        x.read(1, 0, 10);
        check.due("eight bytes, lowest first", x.outs(0), 0x8007060504030201L);
        check.due("from 1", x.outs(1), 0x0980070605040302L);
        check.due("from 2", x.outs(2), 0xff09800706050403L);
        check.due("from 3, fewer", x.outs(3), 0xff098007060504L);
        check.due("the last one", x.outs(9), 255);
        check.refused("outs(10)", x, NoSuchElementException.class, () -> x.outs(10));
        check.refused("outs(-1)", x, NoSuchElementException.class, () -> x.outs(-1));
    }

    private static void grants() {
        TransportPair x = Pairs.ready();
        x.parameter(1, 4, 1000);
        x.parameter(1, 6, 100);
        Pairs.open(x, 1);
        x.open(0, true);
        Pairs.write(x, 0, 0, Pairs.row(400, 0));
        x.tick(3);
        check.due("sent up to the stream's limit", x.stream(0, 0, 2), 100);
        x.read(1, 0, 49);
        check.due("less than half: no more granted", x.stream(1, 0, 13), 100);
        x.read(1, 0, 1);
        check.due("half of it", x.stream(1, 0, 13), 150);
        check.due("the data grant waits", x.streams(1, 4), 1000);
        x.tick(4);
        check.due("told", x.stream(0, 0, 3), 150);
        check.due("and sent", x.stream(0, 0, 2), 150);
        for (int i = 0; i < 8; i++) {
            x.read(1, 0, 50);
            x.tick(4);
        }
        check.due("all of it", x.stream(1, 0, 9), 400);
        Pairs.write(x, 0, 0, Pairs.row(101, 0));
        for (int i = 0; i < 4; i++) {
            x.tick(4);
            x.read(1, 0, 50);
        }
        check.due("half of the data grant is read", x.streams(1, 4), 1500);
        x.tick(4);
        check.due("the limit of all data follows", x.streams(0, 1), 1500);
    }

    private static void blocked() {
        TransportPair x = Pairs.ready();
        x.parameter(1, 4, 30);
        x.parameter(1, 8, 1);
        Pairs.open(x, 1);
        int cargo = x.look(0, 9);
        x.open(0, true);
        x.open(0, true);
        Pairs.write(x, 0, 0, Pairs.row(40, 0));
        x.tick(3);
        check.due("STREAMS BLOCKED, STREAM, DATA BLOCKED", x.look(0, 9), cargo + 3);
        check.due("as many as all may be", x.stream(1, 0, 10), 30);
        x.tick(100);
        check.due("not again with the same limit", x.look(0, 9), cargo + 3);
    }

    private static void close() {
        TransportPair x = Pairs.ready();
        check.refused("close(2, ..)", x, ARGUMENT, () -> x.close(2, 0) ? 1 : 0);
        check.refused("close with 10000", x, ARGUMENT, () -> x.close(0, 10000) ? 1 : 0);
        check.refused("close with -1", x, ARGUMENT, () -> x.close(0, -1) ? 1 : 0);
        check.isTrue("close when idle", !x.close(0, 1));
        Pairs.open(x, 2);
        check.isTrue("close", x.close(0, 9999));
        check.isTrue("close again", !x.close(0, 1));
        check.due("CLOSING", x.look(0, 0), 3);
        check.due("its reason", x.look(0, 1), 39999);
        x.tick(3);
        check.due("DRAINING", x.look(1, 0), 4);
        check.due("its reason", x.look(1, 1), 29999);
        check.isTrue("close when draining", !x.close(1, 1));
        int ticks = 3 * (int) (x.space(0, 2, 8));
        x.tick(ticks - 4);
        check.due("not ended yet", x.look(0, 0), 3);
        x.tick(1);
        check.due("ended, 3 * PATIENCE behind", x.look(0, 0), 5);
        TransportPair y = Pairs.begun();
        y.tick(1);
        y.close(0, 5);
        y.tick(1);
        check.due("closing while greeting: in space 0 alone", y.at(0, 1, -1), 26 + 2 + 4 + 16);
        y.deliver(0, 0);
        y.deliver(0, 0);
        check.due("fewer than 1200 bytes are left out", y.look(1, 0), 1);
        y.tick(1);
        int sent = y.line(0, 1);
        for (int i = 1; i <= 9; i++) {
            y.twice(1, 0);
            y.deliver(1, 0);
            y.tick(1);
            sent += Integer.bitCount(i) == 1 ? 1 : 0;
            check.due("its CLOSE is sent once more with 1, 2, 4, 8", y.line(0, 1), sent);
        }
    }

    private static void raw() {
        TransportPair x = Pairs.open(0 + 1);
        x.flow(0);
        x.end(0);
        check.refused("raw of nothing", x, ARGUMENT, () -> { x.raw(0); return 0; });
        Pairs.tape(x, Pairs.row(1001, 0));
        check.refused("raw of 1001", x, ARGUMENT, () -> { x.raw(0); return 0; });
        check.refused("raw(2)", x, ARGUMENT, () -> { x.raw(2); return 0; });
        Pairs.tape(x, new byte[1000]);
        x.raw(0);
        check.due("the tape is used up", Pairs.tapeSize(x), 0);
        Pairs.tape(x, 1, 0);
        x.raw(0);
        int cargo = x.look(0, 9);
        x.tick(1);
        check.due("in place of those that waited", x.at(0, 0, -1), 9 + 2 + 2 + 16);
        check.due("it is no cargo", x.look(0, 9), cargo);
        check.due("but eliciting", x.space(0, 2, 5), 1);
        x.deliver(0, 0);
        check.due("a PING is pending", x.space(1, 2, 7), 1);
        TransportPair y = Pairs.begun();
        Pairs.tape(y, 1);
        check.refused("raw when greeting", y, STATE, () -> { y.raw(0); return 0; });
        Pairs.rawNow(x, 0, 26, 1, 2, 3, 4, 5, 6, 7, 8);
        cargo = x.look(1, 9);
        x.tick(1);
        check.due("a CHALLENGE is answered", x.look(1, 9), cargo + 1);
        check.due("with a RESPONSE beside the ACK", x.at(1, 0, -1), 9 + 2 + 5 + 9 + 16);
    }

    /** Raw bytes and the reason with which the one who gets them closes; -1: it goes on. */
    private static void rawFaults() {
        int[][] rows = {
            {7, 31}, {7, 255}, {7, 27, 1}, {7, 64}, {7, 18, 0xd0, 0, 0, 0, 0, 0, 0, 1}, {7, 24, 1, 2, 1, 9, 0, 0, 0, 0, 0, 0, 0, 0, 0, 0, 0, 0, 0, 0, 0, 0},
            {7, 2, 5, 0, 0, 6}, {7, 7, 0}, {7, 0, 0, 31}, {10, 0, 0, 25, 0}, {-1, 0, 0, 0, 0}, {7, 24, 3, 2, 0, 0, 0, 0, 0, 0, 0, 0, 0, 0, 0, 0, 0, 0, 0, 0}, {7, 1, 1, 99},
            {-1, 18, 0xd0, 0, 0, 0, 0, 0, 0, 0}, {-1, 24, 2, 2, 1, 9, 0, 0, 0, 0, 0, 0, 0, 0, 0, 0, 0, 0, 0, 0, 0, 0},
            {10, 2, 40, 0, 0, 0}, {10, 25, 0}, {10, 30}, {10, 7, 1, 5}, {-1, 27, 1, 2, 3, 4, 5, 6, 7, 8},
            {266, 6, 0, 1, 7}, {266, 6, 1, 0}, {-1, 6, 0, 0},
            {5, 17, 1, 5}, {5, 8, 1, 5}, {5, 5, 2, 0}, {5, 10, 3, 0}, {4, 8, 64, 64}, {4, 5, 64, 64, 1}, {4, 10, 34, 0},
            {3, 14, 0, 0x80, 0, 64, 0, 1, 9}, {3, 4, 2, 1, 0x80, 0, 64, 1}, {-1, 14, 0, 127, 255, 1, 9},
            {6, 11, 0, 2, 1, 1, 14, 0, 2, 1, 1}, {6, 11, 0, 2, 1, 1, 11, 0, 1, 1}, {6, 14, 0, 5, 1, 1, 11, 0, 1, 1},
            {6, 14, 0, 5, 1, 1, 4, 0, 0, 5}, {-1, 14, 0, 5, 1, 1, 4, 0, 0, 6}, {-1, 20, 9, 21, 0, 3, 22, 1, 23, 2},
            {10005, 28, 5, 0, 0}, {20005, 29, 5, 2, 1, 1}, {19999, 28, 0x80, 0, 39, 16, 1, 0}
        };
        for (int[] row : rows) {
            TransportPair x = Pairs.open(1);
            x.flow(0);
            Pairs.rawNow(x, 0, Arrays.copyOfRange(row, 1, row.length));
            String what = "raw " + Arrays.toString(row);
            check.due(what + ": state", x.look(1, 0), row[0] < 0 ? 2 : row[0] > 9999 ? 4 : 3);
            check.due(what + ": reason", x.look(1, 1), Math.max(row[0], 0));
        }
        TransportPair y = Pairs.ready();
        y.parameter(1, 4, 10);
        Pairs.open(y, 1);
        y.flow(0);
        Pairs.rawNow(y, 0, 14, 0, 5, 1, 9, 14, 4, 3, 1, 9);
        check.due("RECEIVED is all that may come", y.look(1, 0) * 100 + y.streams(1, 2), 210);
        Pairs.rawNow(y, 0, 14, 0, 2, 3, 9, 9, 9, 14, 4, 4, 1, 9);
        check.due("one more in any stream is too many", y.look(1, 1), 3);
        check.due("what was done stays, what was wrong did nothing", y.stream(1, 4, 11), 4);
        TransportPair x = Pairs.open(1);
        x.flow(0);
        Pairs.rawNow(x, 1, 7, 1, 5);
        check.due("a TOKEN is nothing to side 0", x.look(0, 0), 2);
        Pairs.rawNow(x, 1, 8, 1, 50, 51, 31);
        check.due("STREAM without a length goes to the end", x.stream(0, 1, 10), 3);
        Pairs.rawNow(x, 1, 8, 5, 50, 99);
        Pairs.rawNow(x, 1, 10, 9, 1, 60, 8, 6, 1);
        check.due("each frame is done before the next one is read", x.stream(0, 9, 10), 1);
        check.due("whose error closes", x.look(0, 1), 5);
    }
}
