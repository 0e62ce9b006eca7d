import java.util.Arrays;
import java.util.NoSuchElementException;
import java.util.Random;

/**
 * Whatever the lines do, what comes out of a stream is what was written into it; and whatever is called, only the
 * exceptions that the document names are thrown.
 */
public final class IntegrityTest {
    private static final Check check = new Check();
    private static final String[] NAMES = {"feed", "end", "key", "random", "parameter", "begin", "open", "write",
        "finish", "reset", "stop", "read", "outs", "close", "raw", "deliver", "drop", "twice", "alter", "flow", "tick",
        "line", "at", "look", "book", "space", "stream", "streams"};

    public static void main(String[] args) {
        for (int seed = 0; seed < 30; seed++) {
            badLines(seed);
        }
        for (int seed = 0; seed < 60; seed++) {
            wild(seed);
        }
        sameTwice();
        room();
        check.end();
    }

    private static void badLines(int seed) {
        Random random = new Random(seed);
        TransportPair x = Pairs.ready();
        x.begin();
        byte[][] want = {Pairs.row(6000, seed), Pairs.row(9000, seed + 1)};
        byte[][] got = {new byte[9000], new byte[9000]};
        int[] size = new int[2];
        boolean[] written = new boolean[2];
        for (int i = 0; i < 6000 && x.tick(1) < 199000; i++) {
            for (int side = 0; side < 2; side++) {
                trouble(x, side, random);
                int id = side == 0 ? 0 : 3;
                // Bytes sent ahead of that may hold the greeting up: they are in flight, and nothing probes space 2 yet.
                boolean confirmed = x.look(0, 2) == 1 && x.look(1, 2) == 1;
                if (!written[side] && confirmed && x.open(side, side == 0) >= 0) {
                    written[side] = true;
                    Pairs.write(x, side, id, want[side]);
                    x.finish(side, id);
                }
                int n = x.read(1 - side, id, 2048);
                for (int k = 0; k < n; k++) {
                    got[side][size[side] + k] = (byte) x.outs(k);
                }
                size[side] += Math.max(n, 0);
            }
            if (x.stream(1, 0, 8) == 3 && x.stream(0, 3, 8) == 3) {
                break;
            }
        }
        for (int side = 0; side < 2; side++) {
            check.due("seed " + seed + ": size", size[side], want[side].length);
            check.isTrue("seed " + seed + ": bytes", Arrays.equals(Arrays.copyOf(got[side], size[side]), want[side]));
            check.due("seed " + seed + ": state", x.look(side, 0), 2);
        }
    }

    /** Each datagram on a way waits, is dropped, doubled, altered, or comes, in any order. */
    private static void trouble(TransportPair x, int way, Random random) {
        for (int i = x.line(way, 0); i > 0; i--) {
            int count = x.line(way, 0);
            if (count == 0) {
                return;
            }
            int k = random.nextInt(count);
            int what = random.nextInt(20);
            if (what < 4) {
                x.drop(way, k);
            } else if (what < 5) {
                x.twice(way, k);
            } else if (what < 6) {
                x.alter(way, k, random.nextInt(x.at(way, k, -1)), 1 + random.nextInt(255));
            } else if (what < 16) {
                x.deliver(way, k);
            }
        }
    }

    /** Calls with any arguments, in any state. */
    private static void wild(int seed) {
        Random random = new Random(seed);
        TransportPair x = seed % 3 == 0 ? new TransportPair() : seed % 3 == 1 ? Pairs.begun() : Pairs.open(1 + seed % 5);
        int[] edges = {-1, 0, 1, 2, 3, 4, 255, 256, 1000, 1200, 2048, 9999, 65536, 200000, Integer.MAX_VALUE, Integer.MIN_VALUE};
        int[] a = new int[5];
        for (int i = 0; i < 500; i++) {
            String name = NAMES[random.nextInt(NAMES.length)];
            for (int k = 0; k < 5; k++) {
                a[k] = random.nextInt(3) == 0 ? edges[random.nextInt(edges.length)] : random.nextInt(4);
            }
            try {
                RecordedRunsTest.called(x, name, a);
            } catch (IllegalArgumentException | IllegalStateException | NoSuchElementException e) {
                continue;
            } catch (RuntimeException e) {
                check.isTrue("seed " + seed + ": " + name + Arrays.toString(a) + " threw " + e, false);
            }
        }
        check.isTrue("it can be seen still", Pairs.sight(x).length() > 0);
    }

    private static void sameTwice() {
        String[] sights = new String[2];
        for (int i = 0; i < 2; i++) {
            TransportPair x = Pairs.open(3);
            x.open(0, true);
            Pairs.write(x, 0, 0, Pairs.row(20000, 1));
            x.tick(40);
            x.read(1, 0, 2000);
            x.tick(7);
            sights[i] = Pairs.sight(x);
        }
        check.isTrue("the same calls give the same answers", sights[0].equals(sights[1]));
    }

    /** A dear run of 512 calls stays far below the room of 7.3 million elements (at most eight bytes each). */
    private static void room() {
        com.sun.management.ThreadMXBean threads =
            (com.sun.management.ThreadMXBean) java.lang.management.ManagementFactory.getThreadMXBean();
        long before = threads.getThreadAllocatedBytes(Thread.currentThread().getId());
        TransportPair x = Pairs.open(10);
        for (int side = 0; side < 2; side++) {
            for (int i = 0; i < 3276; i++) {
                x.feed(i, i, i, i, i);
            }
            x.open(side, false);
            x.write(side, 2 + side);
        }
        for (int i = 0; i < 199; i++) {
            x.tick(i < 100 ? 10 : 1000);
            x.read(0, 3, 2048);
            x.read(1, 2, 2048);
        }
        long used = threads.getThreadAllocatedBytes(Thread.currentThread().getId()) - before;
        check.isTrue("bytes used: " + used, used < 8_000_000);
        check.due("all was sent", x.streams(0, 0) + x.streams(1, 0), 2 * 65520);
    }
}
