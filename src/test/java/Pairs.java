import java.util.NoSuchElementException;

/** Objects in the states that tests begin with, and all that can be seen of one. */
final class Pairs {
    private Pairs() {
    }

    /** The tape becomes these bytes. */
    static void tape(TransportPair x, byte... bytes) {
        x.end(0);
        for (int i = 0; i < bytes.length; i += 20) {
            int[] w = new int[5];
            for (int k = 0; k < 20; k++) {
                w[k / 4] = w[k / 4] << 8 | (i + k < bytes.length ? bytes[i + k] & 255 : 0);
            }
            x.feed(w[0], w[1], w[2], w[3], w[4]);
        }
        x.end(bytes.length);
    }

    static void tape(TransportPair x, int... bytes) {
        byte[] b = new byte[bytes.length];
        for (int i = 0; i < b.length; i++) {
            b[i] = (byte) bytes[i];
        }
        tape(x, b);
    }

    static byte[] row(int size, int seed) {
        byte[] b = new byte[size];
        for (int i = 0; i < size; i++) {
            b[i] = (byte) (seed + 7 * i + i / 256);
        }
        return b;
    }

    static byte[] randomOf(int side) {
        return row(32, 100 + 50 * side);
    }

    static byte[] key() {
        return row(32, 3);
    }

    /** Both sides have keys and random bytes. */
    static TransportPair ready() {
        TransportPair x = new TransportPair();
        for (int side = 0; side < 2; side++) {
            tape(x, key());
            x.key(side);
            tape(x, randomOf(side));
            x.random(side);
        }
        return x;
    }

    static TransportPair begun() {
        TransportPair x = ready();
        x.begin();
        return x;
    }

    /** Both sides are open and confirmed, all is acknowledged; a flow of so many ticks. */
    static TransportPair open(int flow) {
        return open(ready(), flow);
    }

    static TransportPair open(TransportPair ready, int flow) {
        ready.begin();
        ready.flow(flow);
        ready.tick(6 * flow + 60);
        return ready;
    }

    /** Both sides are open and confirmed, nothing is on the lines, and there is no flow; 0 has gone each way in space 2. */
    static TransportPair still(TransportPair ready) {
        open(ready, 1);
        ready.flow(0);
        return ready;
    }

    static TransportPair still() {
        return still(ready());
    }

    /** Both sides have keys and random bytes; each three numbers are a side, an id and a parameter. */
    static TransportPair with(int... parameters) {
        TransportPair x = ready();
        for (int i = 0; i < parameters.length; i += 3) {
            x.parameter(parameters[i], parameters[i + 1], parameters[i + 2]);
        }
        return x;
    }

    /** All that is on a way comes. */
    static void pass(TransportPair x, int way) {
        while (x.line(way, 0) > 0) {
            x.deliver(way, 0);
        }
    }

    static void clear(TransportPair x) {
        for (int way = 0; way < 2; way++) {
            while (x.line(way, 0) > 0) {
                x.drop(way, 0);
            }
        }
    }

    static int write(TransportPair x, int side, int id, byte[] bytes) {
        tape(x, bytes);
        return x.write(side, id);
    }

    /** Sends raw bytes to the other side, which has them at once; there must be no flow. */
    static void rawNow(TransportPair x, int side, int... bytes) {
        rawNow(x, side, Keys.bytes(bytes));
    }

    static void rawNow(TransportPair x, int side, byte[] bytes) {
        tape(x, bytes);
        x.raw(side);
        x.tick(1);
        pass(x, side);
    }

    static byte[] out(TransportPair x, int size) {
        byte[] b = new byte[size];
        for (int i = 0; i < size; i++) {
            b[i] = (byte) x.outs(i);
        }
        return b;
    }

    static byte[] datagram(TransportPair x, int way, int k) {
        byte[] b = new byte[x.at(way, k, -1)];
        for (int i = 0; i < b.length; i++) {
            b[i] = (byte) x.at(way, k, i);
        }
        return b;
    }

    /** All that can be seen of an object; the tape by its size alone. */
    static String sight(TransportPair x) {
        StringBuilder s = new StringBuilder();
        s.append(tapeSize(x)).append(';');
        for (int side = 0; side < 2; side++) {
            for (int what = 0; what < 10; what++) {
                s.append(x.look(side, what)).append(' ');
            }
            for (int what = 0; what < 11; what++) {
                s.append(x.book(side, what)).append(' ');
            }
            for (int what = 0; what < 36; what++) {
                s.append(x.space(side, what / 12, what % 12)).append(' ');
            }
            for (int what = 0; what < 14; what++) {
                s.append(x.streams(side, what)).append(' ');
            }
            for (int what = 0; what < 256 * 15; what++) {
                s.append(x.stream(side, what / 15, what % 15)).append(' ');
            }
            for (int k = 0; k < x.line(side, 0); k++) {
                s.append(java.util.Arrays.hashCode(datagram(x, side, k))).append('@').append(x.at(side, k, -2)).append(' ');
            }
            s.append(x.line(side, 1)).append(' ').append(x.line(side, 2)).append(';');
        }
        for (int k = 0; k < 2048; k++) {
            try {
                s.append(x.outs(k)).append(' ');
            } catch (NoSuchElementException e) {
                break;
            }
        }
        return s.toString();
    }

    /** What is fed is cut off again, so the tape stays as it was. */
    static int tapeSize(TransportPair x) {
        try {
            int size = x.feed(0, 0, 0, 0, 0) - 20;
            x.end(size);
            return size;
        } catch (IllegalStateException e) {
            for (int size = 65536; ; size--) {
                try {
                    return x.end(size);
                } catch (IllegalArgumentException tooMany) {
                    continue;
                }
            }
        }
    }
}
