import java.util.Arrays;
import java.util.NoSuchElementException;

/** Promises 1 to 7 at their edges: a new object, the tape, keys and random bytes, parameters, the beginning. */
public final class TapeEdgesTest {
    private static final Check check = new Check();
    private static final Class<IllegalArgumentException> ARGUMENT = IllegalArgumentException.class;
    private static final Class<IllegalStateException> STATE = IllegalStateException.class;
    private static final int[] NO_SIDES = {-1, 2, Integer.MIN_VALUE, Integer.MAX_VALUE};

    public static void main(String[] args) {
        nothingIsThere();
        feedAtTheEnd();
        bytesOfAFeed();
        endAtBothEnds();
        keysOfThirtyTwo();
        secretsOnlyWhenIdle();
        parameterIds();
        parameterValues();
        parameterOnlyWhenIdle();
        beginNeedsAll();
        check.end();
    }

    /** "empty lines, tape and OUT; no flow". */
    private static void nothingIsThere() {
        TransportPair x = new TransportPair();
        check.refused("no OUT", x, NoSuchElementException.class, () -> x.outs(0));
        check.refused("no tape", x, ARGUMENT, () -> x.end(1));
        for (int way = 0; way < 2; way++) {
            int w = way;
            check.refused("no datagram to come", x, NoSuchElementException.class, () -> x.deliver(w, 0));
            check.refused("nor to be dropped", x, NoSuchElementException.class, () -> x.drop(w, 0));
            check.refused("nor doubled", x, NoSuchElementException.class, () -> x.twice(w, 0));
            check.refused("nor altered", x, NoSuchElementException.class, () -> x.alter(w, 0, 0, 0));
            check.refused("nor looked at", x, NoSuchElementException.class, () -> x.at(w, 0, -1));
        }
        check.refused("no beginning", x, STATE, () -> { x.begin(); return 0; });
        x.tick(1000);
        check.due("idle sides do nothing", x.look(0, 0) + x.look(1, 0) + x.line(0, 1) + x.line(1, 1), 0);
        TransportPair y = Pairs.begun();
        y.tick(1);
        y.tick(50);
        check.due("no flow: nothing comes by itself", y.line(0, 0), 1);
        TransportPair z = Pairs.still();
        for (int side = 0; side < 2; side++) {
            z.open(side, true);
            z.open(side, false);
            check.due("parameter 6", z.stream(side, side, 3), 16384);
            check.due("parameter 5", z.stream(side, side, 13), 16384);
            check.due("parameter 7", z.stream(side, 2 + side, 3), 16384);
            check.due("parameter 4", z.streams(side, 1), 65536);
            check.due("parameters 8, 9", z.streams(side, 7) * 100 + z.streams(side, 8), 1608);
        }
    }

    private static TransportPair taped(int size) {
        TransportPair x = Pairs.still();
        for (int i = 0; i < 3276; i++) {
            x.feed(i, i, i, i, i);
        }
        if (size > 65520) {
            x.end(65500);
            x.end(size - 20);
            x.feed(-1, -1, -1, -1, -1);
        }
        x.end(size);
        return x;
    }

    /** "Throws IllegalStateException when it would have more than 65536." */
    private static void feedAtTheEnd() {
        for (int size = 65514; size <= 65520; size++) {
            TransportPair x = taped(size);
            if (size + 20 > 65536) {
                check.refused("feed behind " + size, x, STATE, () -> x.feed(1, 2, 3, 4, 5));
                check.due("it has as many as ahead", x.end(size), size);
                continue;
            }
            check.due("feed behind " + size, x.feed(1, 2, 3, 4, 5), size + 20);
            check.refused("no other one", x, STATE, () -> x.feed(1, 2, 3, 4, 5));
            x.end(size + 20);
            x.open(0, true);
            check.due("all of them are written", x.write(0, 0), size + 20);
            x.flow(1);
            byte[] last = {};
            for (int i = 0; i < 400 && x.stream(1, 0, 9) < size + 20; i++) {
                x.tick(1);
                int n = x.read(1, 0, 2048);
                last = n > 0 ? Arrays.copyOfRange(Pairs.out(x, n), Math.max(n - 20, 0), n) : last;
            }
            byte[] want = {0, 0, 0, 1, 0, 0, 0, 2, 0, 0, 0, 3, 0, 0, 0, 4, 0, 0, 0, 5};
            check.isTrue("the last twenty", Arrays.equals(Arrays.copyOfRange(want, 20 - last.length, 20), last));
        }
    }

    /** "the highest byte of a first". */
    private static void bytesOfAFeed() {
        int[] words = {0x80010203, 0x7f0405ff, -1, 0, Integer.MIN_VALUE};
        TransportPair x = Pairs.still();
        check.due("twenty bytes", x.feed(words[0], words[1], words[2], words[3], words[4]), 20);
        Pairs.rawNow(x, 0, Forge.stream(0, 0, 0, false));
        x.end(0);
        x.feed(words[0], words[1], words[2], words[3], words[4]);
        x.open(0, true);
        x.write(0, 0);
        x.tick(1);
        Pairs.pass(x, 0);
        check.due("all came", x.read(1, 0, 20), 20);
        for (int i = 0; i < 20; i++) {
            check.due("byte " + i, x.outs(i) & 255, words[i / 4] >>> 24 - 8 * (i % 4) & 255);
        }
    }

    /** "Throws IllegalArgumentException when n is not 0 .. that." */
    private static void endAtBothEnds() {
        for (int size : new int[] {0, 1, 19, 20, 21, 400}) {
            TransportPair x = new TransportPair();
            Pairs.tape(x, Pairs.row(size, 1));
            check.refused("one more than it has", x, ARGUMENT, () -> x.end(size + 1));
            check.refused("-1", x, ARGUMENT, () -> x.end(-1));
            check.refused("the least", x, ARGUMENT, () -> x.end(Integer.MIN_VALUE));
            check.refused("the most", x, ARGUMENT, () -> x.end(Integer.MAX_VALUE));
            check.due("all that it has", x.end(size), size);
            if (size > 0) {
                check.due("one less", x.end(size - 1), size);
                check.refused("what was cut off is gone", x, ARGUMENT, () -> x.end(size));
            }
            check.due("none", x.end(0), Math.max(size - 1, 0));
            check.due("none of none", x.end(0), 0);
        }
        TransportPair y = Pairs.still();
        Pairs.tape(y, 1, 2, 3, 4);
        check.refused("a refused one", y, ARGUMENT, () -> y.end(5));
        y.open(0, true);
        check.due("leaves the bytes", y.write(0, 0), 4);
        y.tick(1);
        Pairs.pass(y, 0);
        y.read(1, 0, 4);
        check.due("as they were", y.outs(0), 0x04030201);
    }

    /** "when there is no such side, or the tape has not 32 bytes". */
    private static void keysOfThirtyTwo() {
        for (int size : new int[] {0, 1, 31, 32, 33, 64}) {
            for (int side = 0; side < 2; side++) {
                int s = side;
                TransportPair x = new TransportPair();
                Pairs.tape(x, Pairs.row(size, 1));
                if (size != 32) {
                    check.refused("key of " + size, x, ARGUMENT, () -> { x.key(s); return 0; });
                    check.refused("random of " + size, x, ARGUMENT, () -> { x.random(s); return 0; });
                    continue;
                }
                for (int none : NO_SIDES) {
                    check.refused("key of side " + none, x, ARGUMENT, () -> { x.key(none); return 0; });
                    check.refused("random of side " + none, x, ARGUMENT, () -> { x.random(none); return 0; });
                }
                x.key(side);
                check.due("the tape is used up", Pairs.tapeSize(x), 0);
                check.refused("none is left for random", x, ARGUMENT, () -> { x.random(s); return 0; });
                Pairs.tape(x, Pairs.row(32, 1));
                x.random(side);
                check.due("used up", Pairs.tapeSize(x), 0);
            }
        }
    }

    /** "IllegalStateException when the side is not IDLE (side 1 may be told when side 0 has begun)". */
    private static void secretsOnlyWhenIdle() {
        for (int side = 0; side < 2; side++) {
            int s = side;
            for (int state = 0; state < 6; state++) {
                TransportPair x = EndEdgesTest.inState(side, state);
                Pairs.tape(x, Pairs.row(32, 9));
                if (state > 0) {
                    check.refused("key in the state " + state, x, STATE, () -> { x.key(s); return 0; });
                    check.refused("random in the state " + state, x, STATE, () -> { x.random(s); return 0; });
                    check.refused("no such side comes first", x, ARGUMENT, () -> { x.key(2); return 0; });
                    x.end(31);
                    check.refused("31 bytes come first", x, ARGUMENT, () -> { x.key(s); return 0; });
                    check.refused("for random, too", x, ARGUMENT, () -> { x.random(s); return 0; });
                    continue;
                }
                x.key(side);
                Pairs.tape(x, Pairs.row(32, 9));
                x.random(side);
                check.due("both were taken", Pairs.tapeSize(x), 0);
            }
        }
    }

    /** "id is not 1 or 4 .. 9". */
    private static void parameterIds() {
        TransportPair x = Pairs.ready();
        for (int id : new int[] {Integer.MIN_VALUE, -1, 0, 1, 2, 3, 4, 5, 6, 7, 8, 9, 10, 11, 14, 15, Integer.MAX_VALUE}) {
            for (int side = 0; side < 2; side++) {
                int s = side;
                if (id == 1 || id >= 4 && id <= 9) {
                    x.parameter(side, id, 1);
                } else {
                    for (int v : new int[] {-1, 0, 1, 64}) {
                        check.refused("id " + id + ", " + v, x, ARGUMENT, () -> { x.parameter(s, id, v); return 0; });
                    }
                }
            }
            for (int none : NO_SIDES) {
                check.refused("side " + none, x, ARGUMENT, () -> { x.parameter(none, 4, 1); return 0; });
            }
        }
        check.due("what was set", x.streams(0, 4) + x.streams(0, 11) + x.streams(0, 12), 3);
    }

    /** "or v not 0 .. 65536 (1: 0 .. 200000; 8, 9: 0 .. 64)". */
    private static void parameterValues() {
        int[][] rows = {{1, 200000}, {4, 65536}, {5, 65536}, {6, 65536}, {7, 65536}, {8, 64}, {9, 64}};
        for (int[] row : rows) {
            for (int side = 0; side < 2; side++) {
                int s = side;
                TransportPair x = Pairs.ready();
                x.parameter(side, row[0], 0);
                x.parameter(side, row[0], 1);
                x.parameter(side, row[0], row[1] - 1);
                x.parameter(side, row[0], row[1]);
                for (int v : new int[] {-1, row[1] + 1, Integer.MIN_VALUE, Integer.MAX_VALUE}) {
                    check.refused("id " + row[0] + ", " + v, x, ARGUMENT, () -> { x.parameter(s, row[0], v); return 0; });
                }
                if (row[0] == 4 || row[0] > 7) {
                    check.due("it is the last one set", x.streams(side, row[0] == 4 ? 4 : row[0] + 3), row[1]);
                }
            }
        }
    }

    /** "IllegalStateException when it is not idle". */
    private static void parameterOnlyWhenIdle() {
        for (int side = 0; side < 2; side++) {
            int s = side;
            for (int state = 0; state < 6; state++) {
                TransportPair x = EndEdgesTest.inState(side, state);
                if (state == 0) {
                    x.parameter(side, 4, 77);
                    check.due("set", x.streams(side, 4), 77);
                    continue;
                }
                check.refused("in the state " + state, x, STATE, () -> { x.parameter(s, 4, 77); return 0; });
                check.refused("no such id comes first", x, ARGUMENT, () -> { x.parameter(s, 3, 77); return 0; });
                check.refused("no such value comes first", x, ARGUMENT, () -> { x.parameter(s, 4, 65537); return 0; });
                check.refused("no such side comes first", x, ARGUMENT, () -> { x.parameter(2, 4, 77); return 0; });
            }
        }
    }

    /** "when a side has no key or random bytes, or side 0 is not idle". */
    private static void beginNeedsAll() {
        for (int missing = 0; missing < 5; missing++) {
            TransportPair x = new TransportPair();
            for (int i = 0; i < 4; i++) {
                Pairs.tape(x, Pairs.row(32, i));
                if (i != missing && i < 2) {
                    x.key(i);
                } else if (i != missing) {
                    x.random(i - 2);
                }
            }
            x.end(0);
            if (missing < 4) {
                check.refused("without " + missing, x, STATE, () -> { x.begin(); return 0; });
                Pairs.tape(x, Pairs.row(32, missing));
                if (missing < 2) {
                    x.key(missing);
                } else {
                    x.random(missing - 2);
                }
            }
            x.begin();
            check.due("GREETING", x.look(0, 0), 1);
            check.refused("for the second time", x, STATE, () -> { x.begin(); return 0; });
        }
        for (int state = 1; state < 6; state++) {
            TransportPair x = EndEdgesTest.inState(0, state);
            check.refused("in the state " + state, x, STATE, () -> { x.begin(); return 0; });
        }
    }
}
