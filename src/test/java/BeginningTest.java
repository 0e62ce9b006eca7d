/** Promises 1 to 7: a new object, feed, end, key, random, parameter, begin. */
public final class BeginningTest {
    private static final Check check = new Check();
    private static final Class<IllegalArgumentException> ARGUMENT = IllegalArgumentException.class;
    private static final Class<IllegalStateException> STATE = IllegalStateException.class;

    public static void main(String[] args) {
        newObject();
        feed();
        end();
        secrets();
        parameter();
        begin();
        check.end();
    }

    private static void newObject() {
        TransportPair x = new TransportPair();
        int[] look = {0, 0, 0, 0, 0, -1, 0, 0, 0, 0};
        int[] book = {0, 0, 12000, -1, -1, 800, 200, 0, -1, 0, 112};
        long[] space = {0, -1, -1, -1, 0, 0, 0, 0, 300, 0, 0, 0};
        long[] streams = {0, 0, 0, 0, 65536, 0, 0, 0, 0, 0, 0, 16, 8, 0};
        for (int side = 0; side < 2; side++) {
            for (int what = 0; what < look.length; what++) {
                check.due("new: look " + what, x.look(side, what), look[what]);
            }
            for (int what = 0; what < book.length; what++) {
                check.due("new: book " + what, x.book(side, what), book[what]);
            }
            for (int what = 0; what < 36; what++) {
                check.due("new: space " + what, x.space(side, what / 12, what % 12), space[what % 12]);
            }
            for (int what = 0; what < streams.length; what++) {
                check.due("new: streams " + what, x.streams(side, what), streams[what]);
            }
            check.due("new: stream", x.stream(side, side, 0), -1);
            for (int what = 0; what < 3; what++) {
                check.due("new: line " + what, x.line(side, what), 0);
            }
        }
        check.due("new: tape", Pairs.tapeSize(x), 0);
        check.refused("new: outs(0)", x, java.util.NoSuchElementException.class, () -> x.outs(0));
        check.refused("new: begin()", x, STATE, () -> { x.begin(); return 0; });
    }

    private static void feed() {
        TransportPair x = Pairs.open(1);
        x.open(0, true);
        check.due("feed", x.feed(0x01020304, 0x05060708, 0x7f808182, -1, 0), 20);
        check.due("feed again", x.feed(1, 2, 3, 4, 5), 40);
        x.end(21);
        x.write(0, 0);
        x.tick(3);
        x.read(1, 0, 100);
        check.due("the highest byte first", x.outs(0), 0x0807060504030201L);
        check.due("bytes above 127", x.outs(8), 0xffffffff8281807fL);
        check.due("the last ones", x.outs(16), 0x0000000000L);
        for (int i = 1; i <= 3276; i++) {
            check.due("feed " + i, x.feed(i, i, i, i, i), 20 * i);
        }
        check.refused("feed beyond 65536", x, STATE, () -> x.feed(0, 0, 0, 0, 0));
        check.due("end", x.end(65516), 65520);
        check.due("feed up to 65536", x.feed(9, 9, 9, 9, 9), 65536);
        check.refused("feed beyond 65536", x, STATE, () -> x.feed(0, 0, 0, 0, 0));
    }

    private static void end() {
        TransportPair x = new TransportPair();
        check.due("end of none", x.end(0), 0);
        check.refused("end(1) of none", x, ARGUMENT, () -> x.end(1));
        x.feed(1, 2, 3, 4, 5);
        check.refused("end(-1)", x, ARGUMENT, () -> x.end(-1));
        check.refused("end(21)", x, ARGUMENT, () -> x.end(21));
        check.due("end of all", x.end(20), 20);
        check.due("end", x.end(7), 20);
        check.due("end again", x.end(7), 7);
        check.due("feed behind an end", x.feed(1, 2, 3, 4, 5), 27);
    }

    private static void secrets() {
        TransportPair x = new TransportPair();
        Pairs.tape(x, Pairs.row(31, 0));
        check.refused("key of 31", x, ARGUMENT, () -> { x.key(0); return 0; });
        check.refused("random of 31", x, ARGUMENT, () -> { x.random(0); return 0; });
        Pairs.tape(x, Pairs.row(33, 0));
        check.refused("key of 33", x, ARGUMENT, () -> { x.key(1); return 0; });
        Pairs.tape(x, Pairs.row(32, 0));
        check.refused("key(2)", x, ARGUMENT, () -> { x.key(2); return 0; });
        check.refused("key(-1)", x, ARGUMENT, () -> { x.key(-1); return 0; });
        check.refused("random(2)", x, ARGUMENT, () -> { x.random(2); return 0; });
        x.key(0);
        check.due("key uses the tape up", Pairs.tapeSize(x), 0);
        Pairs.tape(x, Pairs.row(32, 0));
        x.random(0);
        check.due("random uses the tape up", Pairs.tapeSize(x), 0);
        check.refused("begin without side 1", x, STATE, () -> { x.begin(); return 0; });
        Pairs.tape(x, Pairs.row(32, 0));
        x.key(1);
        check.refused("begin without random(1)", x, STATE, () -> { x.begin(); return 0; });
        Pairs.tape(x, Pairs.row(32, 0));
        x.random(1);
        x.begin();
        Pairs.tape(x, Pairs.row(32, 0));
        check.refused("key(0) when begun", x, STATE, () -> { x.key(0); return 0; });
        check.refused("random(0) when begun", x, STATE, () -> { x.random(0); return 0; });
        x.key(1);
        Pairs.tape(x, Pairs.row(32, 90));
        x.random(1);
        x.flow(1);
        x.tick(10);
        check.due("side 1 told when side 0 has begun", x.look(0, 0), 2);
        Pairs.tape(x, Pairs.row(32, 0));
        check.refused("key(1) when greeting", x, STATE, () -> { x.key(1); return 0; });
        x.end(31);
        check.refused("the tape is looked at first", x, ARGUMENT, () -> { x.key(0); return 0; });
        differentKeys();
    }

    private static void differentKeys() {
        TransportPair x = Pairs.ready();
        Pairs.tape(x, Pairs.row(32, 77));
        x.key(1);
        x.begin();
        x.flow(1);
        x.tick(20);
        check.due("other keys: side 0 has the answer", x.look(0, 5), 1);
        check.due("other keys: side 0 waits for PARAMETERS", x.look(0, 4), 8);
        check.due("other keys: never open", x.look(0, 0), 1);
        check.due("other keys: side 1 not validated", x.look(1, 3), 0);
    }

    private static void parameter() {
        TransportPair x = Pairs.ready();
        int[] most = {-1, 200000, -1, -1, 65536, 65536, 65536, 65536, 64, 64, -1};
        for (int id = -1; id < 12; id++) {
            int i = id;
            int top = id < 0 || id > 10 ? -1 : most[id];
            if (top < 0) {
                check.refused("parameter " + id, x, ARGUMENT, () -> { x.parameter(0, i, 0); return 0; });
                continue;
            }
            x.parameter(1, id, 0);
            x.parameter(1, id, top);
            check.refused("parameter too great " + id, x, ARGUMENT, () -> { x.parameter(1, i, top + 1); return 0; });
            check.refused("parameter below 0 " + id, x, ARGUMENT, () -> { x.parameter(1, i, -1); return 0; });
        }
        check.refused("parameter(2, ..)", x, ARGUMENT, () -> { x.parameter(2, 4, 1); return 0; });
        x.parameter(1, 4, 111);
        x.parameter(1, 5, 22);
        x.parameter(1, 6, 33);
        x.parameter(1, 7, 44);
        x.parameter(1, 8, 5);
        x.parameter(1, 9, 0);
        check.due("the data grant as set", x.streams(1, 4), 111);
        check.due("streams of both ways as set", x.streams(1, 11), 5);
        check.due("streams of one way as set", x.streams(1, 12), 0);
        x.begin();
        check.refused("parameter(0, ..) when begun", x, STATE, () -> { x.parameter(0, 4, 1); return 0; });
        check.refused("what is wrong comes first", x, ARGUMENT, () -> { x.parameter(0, 3, 1); return 0; });
        x.parameter(1, 7, 45);
        x.parameter(1, 9, 1);
        x.flow(1);
        x.tick(20);
        check.due("limit of all data", x.streams(0, 1), 111);
        check.due("limit of both ways", x.streams(0, 7), 5);
        check.due("limit of one way", x.streams(0, 8), 1);
        check.due("open both", x.open(0, true), 0);
        check.due("limit of a stream of both ways", x.stream(0, 0, 3), 33);
        check.due("open one", x.open(0, false), 2);
        check.due("limit of a stream of one way", x.stream(0, 2, 3), 45);
        check.due("open one more", x.open(0, false), -1);
        check.due("side 1 opens", x.open(1, true), 1);
        check.due("its grant for it", x.stream(1, 1, 13), 22);
        check.due("its limit for it", x.stream(1, 1, 3), 16384);
        quietParameter();
    }

    private static void quietParameter() {
        TransportPair x = Pairs.ready();
        x.parameter(0, 1, 900);
        x.parameter(1, 1, 0);
        Pairs.open(x, 1);
        int began = x.book(1, 0);
        x.tick(800);
        check.due("not quiet so long", x.look(1, 0), 2);
        x.tick(110);
        check.due("quiet, by the one limit there is", x.look(1, 0), 5);
        check.due("its reason", x.look(1, 1), 40000);
        check.due("side 0 likewise", x.look(0, 1), 40000);
        check.isTrue("time", x.book(1, 0) == began + 910);
        TransportPair y = Pairs.ready();
        y.parameter(0, 1, 0);
        y.parameter(1, 1, 0);
        Pairs.open(y, 1);
        for (int i = 0; i < 100; i++) {
            y.tick(1000);
        }
        check.due("no quiet limit", y.look(0, 0), 2);
        TransportPair z = Pairs.ready();
        z.parameter(0, 1, 1);
        z.begin();
        z.tick(974);
        check.due("at least 3 * PATIENCE from the first packet on", z.look(0, 0), 1);
        z.tick(1);
        check.due("(100 + 200 + 25) * 3 ticks behind it", z.look(0, 0) * 100000 + z.look(0, 1), 100000);
        z.tick(1);
        check.due("then it has ended", z.look(0, 0) * 100000 + z.look(0, 1), 540000);
    }

    private static void begin() {
        TransportPair x = Pairs.ready();
        x.begin();
        check.due("greeting", x.look(0, 0), 1);
        check.due("waits for ANSWER", x.look(0, 4), 2);
        check.due("first secrets", x.look(0, 5), 0);
        check.due("guards in space 0", x.space(0, 0, 11), 1);
        check.due("none in space 1", x.space(0, 1, 11), 0);
        check.due("anxious: a probe time", x.space(0, 0, 3), 300);
        check.due("nothing is sent ahead of a tick", x.line(0, 1), 0);
        check.due("side 1 is idle", x.look(1, 0), 0);
        check.refused("begin again", x, STATE, () -> { x.begin(); return 0; });
        TransportPair y = Pairs.ready();
        y.tick(400);
        y.begin();
        y.tick(1);
        check.due("begun late: the probe time is over", y.line(0, 0), 2);
        check.due("and BACKOFF is 1", y.book(0, 9), 1);
        check.due("both probes are gone", y.look(0, 8), 0);
    }
}
