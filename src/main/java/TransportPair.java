import java.util.Arrays;
import java.util.NoSuchElementException;

/** Two endpoints of a secure transport over datagrams, and the lines between them. */
public final class TransportPair {
    private static final int MOST_TAPE = 65536;
    private static final int MOST_TICKS = 200000;
    private static final int MOST_OUT = 2048;
    private static final int MOST_RAW = 1000;
    private static final int MOST_CODE = 2147483647;

    private final Line[] lines;
    private final Side[] sides;
    private byte[] tape;
    private int tapeSize;
    private final byte[] handedOut;
    private int outSize;
    private int time;
    private int flowTicks;

    public TransportPair() {
        Seals seals = new Seals();
        Reader reader = new Reader();
        lines = new Line[] {new Line(), new Line()};
        sides = new Side[] {new Side(0, seals, reader), new Side(1, seals, reader)};
        tape = new byte[64];
        handedOut = new byte[MOST_OUT];
    }

    public int feed(int a, int b, int c, int d, int e) throws IllegalStateException {
        if (tapeSize > MOST_TAPE - 20) {
            throw new IllegalStateException();
        }
        tape = Sending.widened(tape, tapeSize + 20);
        feedWord(a);
        feedWord(b);
        feedWord(c);
        feedWord(d);
        feedWord(e);
        return tapeSize;
    }

    public int end(int n) throws IllegalArgumentException {
        if (n < 0 || n > tapeSize) {
            throw new IllegalArgumentException();
        }
        int had = tapeSize;
        tapeSize = n;
        return had;
    }

    public void key(int side) throws IllegalArgumentException, IllegalStateException {
        checkSecret(side);
        Greeting greeting = sides[side].greeting;
        System.arraycopy(tape, 0, greeting.key, 0, 32);
        greeting.hasKey = true;
        tapeSize = 0;
    }

    public void random(int side) throws IllegalArgumentException, IllegalStateException {
        checkSecret(side);
        Greeting greeting = sides[side].greeting;
        System.arraycopy(tape, 0, greeting.random, 0, 32);
        greeting.hasRandom = true;
        tapeSize = 0;
    }

    public void parameter(int side, int id, int v) throws IllegalArgumentException, IllegalStateException {
        checkPair(side);
        int most = id == 1 ? 200000 : id >= 4 && id <= 7 ? 65536 : id == 8 || id == 9 ? 64 : -1;
        if (v < 0 || v > most) {
            throw new IllegalArgumentException();
        }
        checkIdle(side);
        sides[side].set[id] = v;
        sides[side].streams.granted[id] = v;
    }

    public void begin() throws IllegalStateException {
        if (!sides[0].greeting.isReady() || !sides[1].greeting.isReady()) {
            throw new IllegalStateException();
        }
        checkIdle(0);
        sides[0].ask();
    }

    public int open(int side, boolean both) throws IllegalArgumentException {
        checkPair(side);
        return sides[side].streams.opened(both ? 0 : 1);
    }

    public int write(int side, int id) throws IllegalArgumentException {
        checkPair(side);
        int size = tapeSize;
        tapeSize = 0;
        return sides[side].streams.written(id, tape, size);
    }

    public boolean finish(int side, int id) throws IllegalArgumentException {
        checkPair(side);
        return sides[side].streams.finished(id);
    }

    public boolean reset(int side, int id, int code) throws IllegalArgumentException {
        checkPair(side);
        checkRange(code, MOST_CODE);
        return sides[side].streams.wasReset(id, code);
    }

    public boolean stop(int side, int id, int code) throws IllegalArgumentException {
        checkPair(side);
        checkRange(code, MOST_CODE);
        return sides[side].streams.stopped(id, code);
    }

    public int read(int side, int id, int most) throws IllegalArgumentException {
        checkPair(side);
        checkRange(most, MOST_OUT);
        int got = sides[side].streams.handOut(id, most, handedOut);
        outSize = Math.max(got, 0);
        return got;
    }

    public long outs(int k) throws NoSuchElementException {
        if (k < 0 || k >= outSize) {
            throw new NoSuchElementException();
        }
        long number = 0;
        for (int i = Math.min(outSize, k + 8) - 1; i >= k; i--) {
            number = number << 8 | handedOut[i] & 255;
        }
        return number;
    }

    public boolean close(int side, int code) throws IllegalArgumentException {
        checkPair(side);
        checkRange(code, 9999);
        return sides[side].closeByApplication(code);
    }

    public void raw(int side) throws IllegalArgumentException, IllegalStateException {
        checkPair(side);
        if (tapeSize < 1 || tapeSize > MOST_RAW) {
            throw new IllegalArgumentException();
        }
        if (sides[side].state != Side.OPEN) {
            throw new IllegalStateException();
        }
        Outbox outbox = sides[side].outbox;
        System.arraycopy(tape, 0, outbox.raw, 0, tapeSize);
        outbox.rawSize = tapeSize;
        tapeSize = 0;
    }

    public int deliver(int way, int k) throws IllegalArgumentException, NoSuchElementException {
        checkDatagram(way, k);
        Line line = lines[way];
        int slot = line.taken(k);
        int size = line.sizes[slot];
        sides[1 - way].receive(line.rows[slot], size);
        return size;
    }

    public int drop(int way, int k) throws IllegalArgumentException, NoSuchElementException {
        checkDatagram(way, k);
        return lines[way].sizes[lines[way].taken(k)];
    }

    public int twice(int way, int k) throws IllegalArgumentException, NoSuchElementException {
        checkDatagram(way, k);
        Line line = lines[way];
        int slot = line.order[k];
        line.put(line.rows[slot], line.sizes[slot], line.times[slot]);
        return line.count;
    }

    public int alter(int way, int k, int i, int mask) throws IllegalArgumentException, NoSuchElementException {
        checkDatagram(way, k);
        int slot = lines[way].order[k];
        checkByte(way, slot, i);
        byte[] row = lines[way].rows[slot];
        row[i] ^= (byte) mask;
        return row[i] & 255;
    }

    public void flow(int d) throws IllegalArgumentException {
        checkRange(d, 1000);
        flowTicks = d;
    }

    public int tick(int n) throws IllegalArgumentException, IllegalStateException {
        if (n < 1 || n > 1000) {
            throw new IllegalArgumentException();
        }
        if (time > MOST_TICKS - n) {
            throw new IllegalStateException();
        }
        for (int i = 0; i < n; i++) {
            time++;
            for (int way = 0; way < 2 && flowTicks > 0; way++) {
                Line line = lines[way];
                int slot = line.due(time - flowTicks);
                for (int k = 0; k < Line.ROOM && slot >= 0; k++) {
                    sides[1 - way].receive(line.rows[slot], line.sizes[slot]);
                    slot = line.due(time - flowTicks);
                }
            }
            sides[0].turn(lines[0]);
            sides[1].turn(lines[1]);
        }
        return time;
    }

    public int line(int way, int what) throws IllegalArgumentException {
        checkPair(way);
        checkRange(what, 2);
        Line line = lines[way];
        return what == 0 ? line.count : what == 1 ? line.sent : line.lost;
    }

    public int at(int way, int k, int i) throws IllegalArgumentException, NoSuchElementException {
        checkDatagram(way, k);
        Line line = lines[way];
        int slot = line.order[k];
        if (i == -1) {
            return line.sizes[slot];
        }
        if (i == -2) {
            return line.times[slot];
        }
        checkByte(way, slot, i);
        return line.rows[slot][i] & 255;
    }

    public int look(int side, int what) throws IllegalArgumentException {
        checkPair(side);
        checkRange(what, 9);
        return sides[side].seen(what);
    }

    public int book(int side, int what) throws IllegalArgumentException {
        checkPair(side);
        checkRange(what, 10);
        return sides[side].book.seen(what);
    }

    public long space(int side, int space, int what) throws IllegalArgumentException {
        checkPair(side);
        checkRange(space, 2);
        checkRange(what, 11);
        return sides[side].book.seenSpace(space, what);
    }

    public long stream(int side, int id, int what) throws IllegalArgumentException {
        checkPair(side);
        checkRange(what, 14);
        Streams streams = sides[side].streams;
        if (what < 8) {
            Sending sending = streams.sendingOf(id);
            return sending == null ? -1 : sending.seen(what);
        }
        Receiving receiving = streams.receivingOf(id);
        return receiving == null ? -1 : receiving.seen(what);
    }

    public long streams(int side, int what) throws IllegalArgumentException {
        checkPair(side);
        checkRange(what, 13);
        return sides[side].streams.seen(what);
    }

    private void feedWord(int word) {
        for (int shift = 24; shift >= 0; shift -= 8) {
            tape[tapeSize] = (byte) (word >>> shift);
            tapeSize++;
        }
    }

    /** Of sides and of ways there are two. */
    private static void checkPair(int n) {
        if (n != 0 && n != 1) {
            throw new IllegalArgumentException();
        }
    }

    private static void checkRange(int n, int most) {
        if (n < 0 || n > most) {
            throw new IllegalArgumentException();
        }
    }

    private void checkIdle(int side) {
        if (sides[side].state != Side.IDLE) {
            throw new IllegalStateException();
        }
    }

    private void checkSecret(int side) {
        checkPair(side);
        if (tapeSize != 32) {
            throw new IllegalArgumentException();
        }
        checkIdle(side);
    }

    private void checkDatagram(int way, int k) {
        checkPair(way);
        if (k < 0 || k >= lines[way].count) {
            throw new NoSuchElementException();
        }
    }

    private void checkByte(int way, int slot, int i) {
        if (i < 0 || i >= lines[way].sizes[slot]) {
            throw new NoSuchElementException();
        }
    }

    /** One way of the lines. The first entries of the order are the slots on it, the others are free. */
    private static final class Line {
        static final int ROOM = 96;

        final byte[][] rows = new byte[ROOM][0];
        final int[] sizes = new int[ROOM];
        final int[] times = new int[ROOM];
        final int[] order = new int[ROOM];
        int count;
        int sent;
        int lost;

        Line() {
            for (int i = 0; i < ROOM; i++) {
                order[i] = i;
            }
        }

        void put(byte[] from, int size, int time) {
            sent++;
            if (count >= ROOM) {
                lost++;
                return;
            }
            int slot = order[count];
            // A row is made when its slot is first used: few runs fill a line.
            if (rows[slot].length < Outbox.MOST) {
                rows[slot] = new byte[Outbox.MOST];
            }
            System.arraycopy(from, 0, rows[slot], 0, size);
            sizes[slot] = size;
            times[slot] = time;
            count++;
        }

        /** Takes datagram k off the line; its row stays as it is until the next one is put. */
        int taken(int k) {
            int slot = order[k];
            for (int i = k; i < count - 1; i++) {
                order[i] = order[i + 1];
            }
            count--;
            order[count] = slot;
            return slot;
        }

        /** Takes the first datagram off that was sent at a time or before it: its slot, or -1. */
        int due(int latest) {
            for (int k = 0; k < count; k++) {
                if (times[order[k]] <= latest) {
                    return taken(k);
                }
            }
            return -1;
        }
    }

    /** Reads numbers, frames and headers; also how numbers are written. */
    private static final class Reader {
        static final long MOST_NUMBER = 4611686018427387903L;
        static final int CUT = 1;
        static final int KIND = 2;
        static final int VALUE = 3;
        static final int LEVEL = 4;
        static final int PADDING = 0;
        static final int PING = 1;
        static final int ACK = 2;
        static final int RESET = 4;
        static final int STOP = 5;
        static final int CRYPTO = 6;
        static final int TOKEN = 7;
        static final int STREAM = 8;
        static final int MAX_DATA = 16;
        static final int MAX_STREAM_DATA = 17;
        static final int MAX_STREAMS = 18;
        static final int DATA_BLOCKED = 20;
        static final int STREAM_DATA_BLOCKED = 21;
        static final int STREAMS_BLOCKED = 22;
        static final int NEW_NAME = 24;
        static final int RETIRE = 25;
        static final int CHALLENGE = 26;
        static final int RESPONSE = 27;
        static final int CLOSE = 28;
        static final int CLOSE_BY_APPLICATION = 29;
        static final int DONE = 30;
        static final int MOST_RANGES = 64;
        static final int NAME = 8;
        static final int SHORT = 4;
        private static final long MOST_STREAMS = 1152921504606846976L;
        private static final int MOST_NAME = 20;
        private static final int LEAST_LENGTH = 20;

        byte[] bytes = new byte[0];
        int pos;
        int end;
        boolean cut;
        private boolean bad;

        int kind;
        long a;
        long b;
        long c;
        int dataAt;
        int dataSize;
        final long[] low = new long[MOST_RANGES];
        final long[] high = new long[MOST_RANGES];
        int ranges;

        int packet;
        int toAt;
        int toSize;
        int bySize;
        int byAt;
        int place;
        int next;

        static int sizeOf(long number) {
            return number < 64 ? 1 : number < 16384 ? 2 : number < 1073741824L ? 4 : 8;
        }

        /** Writes a number in the fewest bytes: the place behind it. */
        static int putNumber(byte[] to, int at, long number) {
            int size = number < 64 ? 1 : number < 16384 ? 2 : number < 1073741824L ? 4 : 8;
            for (int i = 0; i < size; i++) {
                to[at + i] = (byte) (number >>> 8 * (size - 1 - i));
            }
            int sizeBits = size == 1 ? 0 : size == 2 ? 64 : size == 4 ? 128 : 192;
            to[at] |= (byte) sizeBits;
            return at + size;
        }

        void start(byte[] from, int at, int size) {
            bytes = from;
            pos = at;
            end = Math.min(size, from.length);
            cut = false;
        }

        long number() {
            if (cut || pos >= end) {
                cut = true;
                return 0;
            }
            return bits(1 << ((bytes[pos] & 255) >> 6), bytes[pos] & 63);
        }

        /** So many bytes, highest first, the first of them as it is told. */
        private long bits(int size, long first) {
            if (cut || size > end - pos) {
                cut = true;
                return 0;
            }
            long value = first;
            for (int i = 1; i < size; i++) {
                value = value << 8 | bytes[pos + i] & 255;
            }
            pos += size;
            return value;
        }

        private long word(int size) {
            return bits(size, cut || pos >= end ? 0 : bytes[pos] & 255);
        }

        /** The data read last as just one number, or -1. */
        long onlyNumber() {
            if (dataSize < 1 || 1 << ((bytes[dataAt] & 255) >> 6) != dataSize) {
                return -1;
            }
            pos = dataAt;
            return number();
        }

        void data(long size) {
            if (cut || size > end - pos) {
                cut = true;
                return;
            }
            dataAt = pos;
            dataSize = (int) size;
            pos += dataSize;
        }

        /** Reads the next frame at a level: its fault, or 0. */
        int frame(int level) {
            cut = pos >= end;
            bad = false;
            a = 0;
            b = 0;
            c = 0;
            dataSize = 0;
            ranges = 0;
            if (cut) {
                return CUT;
            }
            int first = bytes[pos] & 255;
            if (first > DONE) {
                return KIND;
            }
            if (level < 2 && first > ACK + 1 && first != CRYPTO && first != CLOSE) {
                return LEVEL;
            }
            pos++;
            kind = first;
            if (first == ACK || first == ACK + 1) {
                ackFields();
            } else if (first >= STREAM && first < MAX_DATA) {
                streamFields(first);
            } else {
                fields();
            }
            return cut ? CUT : bad ? VALUE : 0;
        }

        private void ackFields() {
            kind = ACK;
            boolean counts = bytes[pos - 1] == ACK + 1;
            a = number();
            b = number();
            long more = number();
            long greatest = a;
            long least = a - number();
            // Each range that follows has two bytes at least.
            cut |= more > end - pos;
            bad = least < 0;
            addRange(least, greatest);
            for (long i = 0; i < more && !cut && !bad; i++) {
                greatest = least - number() - 2;
                least = greatest - number();
                bad = least < 0;
                addRange(least, greatest);
            }
            for (int i = 0; i < 3 && counts; i++) {
                number();
            }
        }

        private void addRange(long least, long greatest) {
            if (ranges < MOST_RANGES) {
                low[ranges] = least;
                high[ranges] = greatest;
                ranges++;
            }
        }

        private void streamFields(int first) {
            kind = STREAM;
            c = first & 1;
            a = number();
            b = (first & 4) == 0 ? 0 : number();
            data((first & 2) == 0 ? end - pos : number());
            bad = b > MOST_NUMBER - dataSize;
        }

        private void fields() {
            switch (kind) {
                case PADDING:
                    skipPadding();
                    break;
                case RESET:
                    a = number();
                    b = number();
                    c = number();
                    break;
                case STOP: case MAX_STREAM_DATA: case STREAM_DATA_BLOCKED:
                    a = number();
                    b = number();
                    break;
                case CRYPTO:
                    b = number();
                    data(number());
                    bad = b > MOST_NUMBER - dataSize;
                    break;
                case TOKEN:
                    data(number());
                    bad = dataSize == 0;
                    break;
                case MAX_DATA: case DATA_BLOCKED: case RETIRE:
                    a = number();
                    break;
                case MAX_STREAMS: case MAX_STREAMS + 1: case STREAMS_BLOCKED: case STREAMS_BLOCKED + 1:
                    a = number();
                    bad = a > MOST_STREAMS;
                    break;
                case NEW_NAME:
                    newName();
                    break;
                case CHALLENGE: case RESPONSE:
                    a = word(8);
                    break;
                case CLOSE:
                    a = number();
                    b = number();
                    data(number());
                    break;
                case CLOSE_BY_APPLICATION:
                    a = number();
                    data(number());
                    break;
                default:
                    break;
            }
        }

        private void skipPadding() {
            a = 1;
            for (; pos < end && bytes[pos] == 0; pos++) {
                a++;
            }
        }

        private void newName() {
            a = number();
            b = number();
            long size = word(1);
            data(size);
            word(8);
            word(8);
            bad = b > a || size < 1 || size > MOST_NAME;
        }

        /** Reads the header of a packet at a place of a datagram: whether it is right. */
        boolean head(byte[] from, int at, int size) {
            start(from, at, size);
            if (pos >= end) {
                return false;
            }
            int first = bytes[pos] & 255;
            pos++;
            if ((first & 64) == 0) {
                return false;
            }
            return first < 128 ? shortHead() : longHead(first >> 4 & 3);
        }

        private boolean shortHead() {
            packet = SHORT;
            toAt = pos;
            toSize = NAME;
            bySize = 0;
            place = toAt + NAME;
            next = end;
            return end - place >= LEAST_LENGTH;
        }

        private boolean longHead(int type) {
            packet = type;
            long version = word(4);
            data(word(1));
            toAt = dataAt;
            toSize = dataSize;
            if (cut || version != 1 || toSize > MOST_NAME) {
                return false;
            }
            data(word(1));
            byAt = dataAt;
            bySize = dataSize;
            if (cut || bySize > MOST_NAME || type == 1 || type == 3) {
                return false;
            }
            if (type == 0) {
                data(number());
            }
            long length = number();
            place = pos;
            if (cut || length < LEAST_LENGTH || length > end - pos) {
                return false;
            }
            next = pos + (int) length;
            return true;
        }
    }

    /** Digests, MACs, labels, key blocks and tallies, and guards made of them: key, IV and HIDE in one row. */
    private static final class Seals {
        static final int GUARD = 76;
        static final int TAG = 16;
        private static final int IV = 32;
        private static final int HIDE = 44;
        private static final long LIMB = 0x3ffffff;
        private static final long WORD = 0xffffffffL;
        private static final int[] ROOTS = {
            0x6a09e667, 0xbb67ae85, 0x3c6ef372, 0xa54ff53a, 0x510e527f, 0x9b05688c, 0x1f83d9ab, 0x5be0cd19
        };
        private static final int[] CUBES = {
            0x428a2f98, 0x71374491, 0xb5c0fbcf, 0xe9b5dba5, 0x3956c25b, 0x59f111f1, 0x923f82a4, 0xab1c5ed5,
            0xd807aa98, 0x12835b01, 0x243185be, 0x550c7dc3, 0x72be5d74, 0x80deb1fe, 0x9bdc06a7, 0xc19bf174,
            0xe49b69c1, 0xefbe4786, 0x0fc19dc6, 0x240ca1cc, 0x2de92c6f, 0x4a7484aa, 0x5cb0a9dc, 0x76f988da,
            0x983e5152, 0xa831c66d, 0xb00327c8, 0xbf597fc7, 0xc6e00bf3, 0xd5a79147, 0x06ca6351, 0x14292967,
            0x27b70a85, 0x2e1b2138, 0x4d2c6dfc, 0x53380d13, 0x650a7354, 0x766a0abb, 0x81c2c92e, 0x92722c85,
            0xa2bfe8a1, 0xa81a664b, 0xc24b8b70, 0xc76c51a3, 0xd192e819, 0xd6990624, 0xf40e3585, 0x106aa070,
            0x19a4c116, 0x1e376c08, 0x2748774c, 0x34b0bcb5, 0x391c0cb3, 0x4ed8aa4a, 0x5b9cca4f, 0x682e6ff3,
            0x748f82ee, 0x78a5636f, 0x84c87814, 0x8cc70208, 0x90befffa, 0xa4506ceb, 0xbef9a3f7, 0xc67178f2
        };

        private final int[] words = new int[64];
        private final int[] sums = new int[8];
        private final int[] turned = new int[8];
        private final byte[] inner = new byte[160];
        private final byte[] outer = new byte[96];
        private final byte[] info = new byte[64];
        private final byte[] stretched = new byte[32];
        private final int[] mixed = new int[16];
        private final int[] unmixed = new int[16];
        final byte[] block = new byte[64];
        private final byte[] nonce = new byte[12];
        private final byte[] lengths = new byte[16];
        private final byte[] tally = new byte[TAG];
        private final long[] factor = new long[5];
        private final long[] total = new long[5];

        void digest(byte[] from, int size, byte[] to, int at) {
            System.arraycopy(ROOTS, 0, sums, 0, 8);
            int all = (size + 72) / 64 * 64;
            for (int chunk = 0; chunk < all; chunk += 64) {
                for (int i = 0; i < 64; i++) {
                    int k = chunk + i;
                    int octet = k < size ? from[k] & 255 : k == size ? 128
                        : k < all - 8 ? 0 : (int) (8L * size >>> 8 * (all - 1 - k)) & 255;
                    words[i / 4] = words[i / 4] << 8 | octet;
                }
                for (int t = 16; t < 64; t++) {
                    int x = words[t - 15];
                    int y = words[t - 2];
                    words[t] = words[t - 16] + words[t - 7]
                        + (Integer.rotateRight(x, 7) ^ Integer.rotateRight(x, 18) ^ x >>> 3)
                        + (Integer.rotateRight(y, 17) ^ Integer.rotateRight(y, 19) ^ y >>> 10);
                }
                System.arraycopy(sums, 0, turned, 0, 8);
                for (int t = 0; t < 64; t++) {
                    int a = turned[0];
                    int e = turned[4];
                    int p = turned[7] + CUBES[t] + words[t]
                        + (Integer.rotateRight(e, 6) ^ Integer.rotateRight(e, 11) ^ Integer.rotateRight(e, 25))
                        + (e & turned[5] ^ ~e & turned[6]);
                    int q = (Integer.rotateRight(a, 2) ^ Integer.rotateRight(a, 13) ^ Integer.rotateRight(a, 22))
                        + (a & turned[1] ^ a & turned[2] ^ turned[1] & turned[2]);
                    for (int i = 7; i > 0; i--) {
                        turned[i] = turned[i - 1];
                    }
                    turned[4] += p;
                    turned[0] = p + q;
                }
                for (int i = 0; i < 8; i++) {
                    sums[i] += turned[i];
                }
            }
            for (int i = 0; i < 32; i++) {
                to[at + i] = (byte) (sums[i / 4] >>> 24 - 8 * (i % 4));
            }
        }

        /** The MAC under a key of at most 64 bytes (none here is longer) of at most 96 bytes. */
        void mac(byte[] key, int keySize, byte[] from, int size, byte[] to) {
            for (int i = 0; i < 64; i++) {
                int octet = i < keySize ? key[i] : 0;
                inner[i] = (byte) (octet ^ 54);
                outer[i] = (byte) (octet ^ 92);
            }
            System.arraycopy(from, 0, inner, 64, size);
            digest(inner, 64 + size, outer, 64);
            digest(outer, 96, to, 0);
        }

        private static String text(int w) {
            switch (w) {
                case 0: return "v1 key";
                case 1: return "v1 iv";
                case 2: return "v1 hide";
                case 4: return "v1 first a";
                case 5: return "v1 first b";
                case 6: return "v1 greet a";
                case 7: return "v1 greet b";
                case 8: return "v1 talk a";
                case 9: return "v1 talk b";
                default: return "v1 done";
            }
        }

        /** Label w of a key of 32 bytes to n bytes; nothing here asks for more than the 32 of one MAC. */
        void label(int w, byte[] key, byte[] context, int contextSize, int n, byte[] to, int at) {
            String text = text(w);
            int size = text.length();
            info[0] = 0;
            info[1] = (byte) n;
            info[2] = (byte) size;
            for (int i = 0; i < size; i++) {
                info[3 + i] = (byte) text.charAt(i);
            }
            info[3 + size] = (byte) contextSize;
            System.arraycopy(context, 0, info, 4 + size, contextSize);
            info[4 + size + contextSize] = 1;
            mac(key, 32, info, 5 + size + contextSize, stretched);
            System.arraycopy(stretched, 0, to, at, n);
        }

        void arm(byte[] guard, byte[] secret) {
            label(0, secret, secret, 0, 32, guard, 0);
            label(1, secret, secret, 0, 12, guard, IV);
            label(2, secret, secret, 0, 32, guard, HIDE);
        }

        private static int little(byte[] from, int at) {
            return from[at] & 255 | (from[at + 1] & 255) << 8 | (from[at + 2] & 255) << 16 | from[at + 3] << 24;
        }

        /** The key block of the 32 bytes of a guard from a place on, into the block. */
        private void keyBlock(byte[] guard, int keyAt, int counter, byte[] from, int nonceAt) {
            unmixed[0] = 1634760805;
            unmixed[1] = 857760878;
            unmixed[2] = 2036477234;
            unmixed[3] = 1797285236;
            for (int i = 0; i < 8; i++) {
                unmixed[4 + i] = little(guard, keyAt + 4 * i);
            }
            unmixed[12] = counter;
            for (int i = 0; i < 3; i++) {
                unmixed[13 + i] = little(from, nonceAt + 4 * i);
            }
            System.arraycopy(unmixed, 0, mixed, 0, 16);
            for (int i = 0; i < 10; i++) {
                mix(0, 4, 8, 12);
                mix(1, 5, 9, 13);
                mix(2, 6, 10, 14);
                mix(3, 7, 11, 15);
                mix(0, 5, 10, 15);
                mix(1, 6, 11, 12);
                mix(2, 7, 8, 13);
                mix(3, 4, 9, 14);
            }
            for (int i = 0; i < 64; i++) {
                block[i] = (byte) (mixed[i / 4] + unmixed[i / 4] >>> 8 * (i % 4));
            }
        }

        private void mix(int a, int b, int c, int d) {
            int[] x = mixed;
            x[a] += x[b];
            x[d] = Integer.rotateLeft(x[d] ^ x[a], 16);
            x[c] += x[d];
            x[b] = Integer.rotateLeft(x[b] ^ x[c], 12);
            x[a] += x[b];
            x[d] = Integer.rotateLeft(x[d] ^ x[a], 8);
            x[c] += x[d];
            x[b] = Integer.rotateLeft(x[b] ^ x[c], 7);
        }

        private void makeNonce(byte[] guard, long number) {
            System.arraycopy(guard, IV, nonce, 0, 12);
            for (int i = 0; i < 8; i++) {
                nonce[4 + i] ^= (byte) (number >>> 56 - 8 * i);
            }
        }

        private void crypt(byte[] guard, byte[] bytes, int from, int to) {
            int counter = 1;
            for (int at = from; at < to; at += 64) {
                keyBlock(guard, 0, counter, nonce, 0);
                int size = Math.min(64, to - at);
                for (int i = 0; i < size; i++) {
                    bytes[at + i] ^= block[i];
                }
                counter++;
            }
        }

        /** Seals what is behind the head; the tally comes behind the end. */
        void seal(byte[] guard, byte[] bytes, int from, int headEnd, int to, long number) {
            makeNonce(guard, number);
            crypt(guard, bytes, headEnd, to);
            makeTally(guard, bytes, from, headEnd, to);
            System.arraycopy(tally, 0, bytes, to, TAG);
        }

        /** Opens what is behind the head, if the last bytes are the tally. */
        boolean unseal(byte[] guard, byte[] bytes, int from, int headEnd, int to, long number) {
            makeNonce(guard, number);
            makeTally(guard, bytes, from, headEnd, to - TAG);
            for (int i = 0; i < TAG; i++) {
                if (bytes[to - TAG + i] != tally[i]) {
                    return false;
                }
            }
            crypt(guard, bytes, headEnd, to - TAG);
            return true;
        }

        /** The mask of a sample, as the first bytes of the block. */
        void makeMask(byte[] guard, byte[] bytes, int sample) {
            keyBlock(guard, HIDE, little(bytes, sample), bytes, sample + 4);
        }

        private void makeTally(byte[] guard, byte[] bytes, int from, int headEnd, int to) {
            keyBlock(guard, 0, 0, nonce, 0);
            for (int i = 3; i < 16; i += 4) {
                block[i] &= 15;
            }
            for (int i = 4; i < 16; i += 4) {
                block[i] &= (byte) 252;
            }
            long t0 = little(block, 0) & WORD;
            long t1 = little(block, 4) & WORD;
            long t2 = little(block, 8) & WORD;
            long t3 = little(block, 12) & WORD;
            factor[0] = t0 & LIMB;
            factor[1] = (t0 >>> 26 | t1 << 6) & LIMB;
            factor[2] = (t1 >>> 20 | t2 << 12) & LIMB;
            factor[3] = (t2 >>> 14 | t3 << 18) & LIMB;
            factor[4] = t3 >>> 8;
            Arrays.fill(total, 0);
            absorb(bytes, from, headEnd);
            absorb(bytes, headEnd, to);
            Arrays.fill(lengths, (byte) 0);
            for (int i = 0; i < 4; i++) {
                lengths[i] = (byte) (headEnd - from >>> 8 * i);
                lengths[8 + i] = (byte) (to - headEnd >>> 8 * i);
            }
            absorb(lengths, 0, 16);
            finishTally();
        }

        private static long littleCut(byte[] bytes, int at, int to) {
            long value = 0;
            for (int i = Math.min(at + 4, to) - 1; i >= at; i--) {
                value = value << 8 | bytes[i] & 255;
            }
            return value;
        }

        /** Adds bytes, with 0s behind them up to a multiple of 16, to the tally's sum, in limbs of 26 bits. */
        private void absorb(byte[] bytes, int from, int to) {
            long r0 = factor[0];
            long r1 = factor[1];
            long r2 = factor[2];
            long r3 = factor[3];
            long r4 = factor[4];
            long h0 = total[0];
            long h1 = total[1];
            long h2 = total[2];
            long h3 = total[3];
            long h4 = total[4];
            for (int at = from; at < to; at += 16) {
                long t0 = littleCut(bytes, at, to);
                long t1 = littleCut(bytes, at + 4, to);
                long t2 = littleCut(bytes, at + 8, to);
                long t3 = littleCut(bytes, at + 12, to);
                h0 += t0 & LIMB;
                h1 += (t0 >>> 26 | t1 << 6) & LIMB;
                h2 += (t1 >>> 20 | t2 << 12) & LIMB;
                h3 += (t2 >>> 14 | t3 << 18) & LIMB;
                h4 += t3 >>> 8 | 1 << 24;
                long d0 = h0 * r0 + 5 * (h1 * r4 + h2 * r3 + h3 * r2 + h4 * r1);
                long d1 = h0 * r1 + h1 * r0 + 5 * (h2 * r4 + h3 * r3 + h4 * r2);
                long d2 = h0 * r2 + h1 * r1 + h2 * r0 + 5 * (h3 * r4 + h4 * r3);
                long d3 = h0 * r3 + h1 * r2 + h2 * r1 + h3 * r0 + 5 * (h4 * r4);
                long d4 = h0 * r4 + h1 * r3 + h2 * r2 + h3 * r1 + h4 * r0;
                d1 += d0 >>> 26;
                d2 += d1 >>> 26;
                d3 += d2 >>> 26;
                d4 += d3 >>> 26;
                h0 = (d0 & LIMB) + 5 * (d4 >>> 26);
                h1 = (d1 & LIMB) + (h0 >>> 26);
                h0 &= LIMB;
                h2 = d2 & LIMB;
                h3 = d3 & LIMB;
                h4 = d4 & LIMB;
            }
            total[0] = h0;
            total[1] = h1;
            total[2] = h2;
            total[3] = h3;
            total[4] = h4;
        }

        /** Brings the sum below 2^130 - 5, adds the key's other half, and writes the tally. */
        private void finishTally() {
            for (int round = 0; round < 2; round++) {
                for (int i = 0; i < 4; i++) {
                    total[i + 1] += total[i] >>> 26;
                    total[i] &= LIMB;
                }
                total[0] += 5 * (total[4] >>> 26);
                total[4] &= LIMB;
            }
            total[1] += total[0] >>> 26;
            total[0] &= LIMB;
            // With 5 more it reaches 2^130 just when it is not below 2^130 - 5.
            long carry = 5;
            for (int i = 0; i < 5; i++) {
                carry = total[i] + carry >>> 26;
            }
            total[0] += 5 * carry;
            for (int i = 0; i < 4; i++) {
                total[i + 1] += total[i] >>> 26;
                total[i] &= LIMB;
            }
            long sum = 0;
            for (int i = 0; i < 4; i++) {
                // Word i begins 6 * i bits above limb i's lowest bit.
                long word = total[i] >>> 6 * i | total[i + 1] << 26 - 6 * i;
                sum = (word & WORD) + (little(block, 16 + 4 * i) & WORD) + (sum >>> 32);
                for (int k = 0; k < 4; k++) {
                    tally[4 * i + k] = (byte) (sum >>> 8 * k);
                }
            }
        }
    }

    /** A side's greeting: its messages, its secrets, and the bytes of both levels that go and come. */
    private static final class Greeting {
        static final int HELLO = 1;
        static final int ANSWER = 2;
        static final int PARAMETERS = 8;
        static final int DONE = 20;
        static final int UNEXPECTED = 266;
        static final int WRONG_SIZE = 306;
        static final int WRONG_PROOF = 307;
        private static final int MOST_PARAMETERS = 300;
        private static final byte[] FIRST_KEY = {1, 2, 3, 4, 5, 6, 7, 8, 9, 10, 11, 12, 13, 14, 15, 16, 17, 18, 19, 20};

        private final Seals seals;
        final byte[] key = new byte[32];
        final byte[] random = new byte[32];
        boolean hasKey;
        boolean hasRandom;
        int waits;
        int fault;
        int level = -1;
        boolean done;
        /** At 2 * level + side. */
        final byte[][] secrets = new byte[6][32];
        private final byte[] greet = new byte[32];
        private final byte[] made = new byte[32];
        private final byte[] hash = new byte[32];
        final byte[] proof = new byte[32];
        private final byte[] said = new byte[768];
        private int saidSize;
        final byte[] own = new byte[32 + MOST_PARAMETERS];
        int ownSize;
        final byte[] peer = new byte[MOST_PARAMETERS];
        int peerSize = -1;
        final Sending[] goes = {new Sending(Reader.MOST_NUMBER), new Sending(Reader.MOST_NUMBER)};
        final Receiving[] comes = {new Receiving(0), new Receiving(0)};

        Greeting(Seals seals) {
            this.seals = seals;
        }

        boolean isReady() {
            return hasKey && hasRandom;
        }

        /** The first secrets, of a first name of 8 bytes from a place on. */
        void makeFirst(byte[] from, int nameAt) {
            System.arraycopy(from, nameAt, made, 0, Reader.NAME);
            seals.mac(FIRST_KEY, FIRST_KEY.length, made, Reader.NAME, hash);
            seals.label(4, hash, made, 0, 32, secrets[0], 0);
            seals.label(5, hash, made, 0, 32, secrets[1], 0);
        }

        /** Of HELLO and ANSWER. */
        void makeGreet() {
            seals.digest(said, saidSize, hash, 0);
            seals.mac(key, 32, hash, 32, greet);
            seals.label(6, greet, hash, 32, 32, secrets[2], 0);
            seals.label(7, greet, hash, 32, 32, secrets[3], 0);
            level = 1;
        }

        /** Of all up to DONE of side 1. */
        void makeTalk() {
            seals.digest(said, saidSize, hash, 0);
            seals.mac(greet, 32, hash, 32, made);
            seals.label(8, made, hash, 32, 32, secrets[4], 0);
            seals.label(9, made, hash, 32, 32, secrets[5], 0);
            level = 2;
        }

        /** The proof of a side, of all messages so far. */
        void makeProof(int side) {
            seals.label(10, secrets[2 + side], said, 0, 32, made, 0);
            seals.digest(said, saidSize, hash, 0);
            seals.mac(made, 32, hash, 32, proof);
        }

        void say(int at, int type, byte[] body, int bodyAt, int size) {
            int from = saidSize;
            if (size > said.length - from - 4) {
                return;
            }
            said[from] = (byte) type;
            said[from + 1] = 0;
            said[from + 2] = (byte) (size >>> 8);
            said[from + 3] = (byte) size;
            System.arraycopy(body, bodyAt, said, from + 4, size);
            saidSize += 4 + size;
            goes[at].put(said, from, 4 + size);
        }

        private int levelOf(int type) {
            return type == HELLO || type == ANSWER ? 0 : 1;
        }

        private boolean fits(int type, int size) {
            int least = type == PARAMETERS ? 0 : 32;
            int most = type == HELLO ? 32 + MOST_PARAMETERS : type == PARAMETERS ? MOST_PARAMETERS : 32;
            return size >= least && size <= most;
        }

        private int bodySize(Receiving in) {
            int size = 0;
            for (int i = 1; i < 4; i++) {
                size = size << 8 | in.bytes[in.read + i] & 255;
            }
            return size;
        }

        /** The type of the message that is wholly there at a level and waited for, or 0. */
        int next(int at) {
            Receiving in = comes[at];
            int left = in.ready - in.read;
            if (fault != 0 || left < 1) {
                return 0;
            }
            int type = in.bytes[in.read] & 255;
            if (waits == 0 || type != waits || levelOf(type) != at) {
                fail(UNEXPECTED);
                return 0;
            }
            if (left < 4) {
                return 0;
            }
            int size = bodySize(in);
            if (!fits(type, size)) {
                fail(WRONG_SIZE);
                return 0;
            }
            return left < 4 + size ? 0 : type;
        }

        void fail(int number) {
            fault = number;
            waits = 0;
        }

        /** Takes the message that next() has found. */
        void accept(int type) {
            Receiving in = comes[levelOf(type)];
            int size = bodySize(in);
            if (4 + size > said.length - saidSize) {
                return;
            }
            System.arraycopy(in.bytes, in.read, said, saidSize, 4 + size);
            saidSize += 4 + size;
            if (type == HELLO || type == PARAMETERS) {
                int skip = type == HELLO ? 32 : 0;
                peerSize = size - skip;
                System.arraycopy(in.bytes, in.read + 4 + skip, peer, 0, peerSize);
            }
            in.read += 4 + size;
        }

        /** Whether the DONE that next() has found has the proof made last. */
        boolean isProved() {
            Receiving in = comes[1];
            for (int i = 0; i < 32; i++) {
                if (in.bytes[in.read + 4 + i] != proof[i]) {
                    return false;
                }
            }
            return true;
        }
    }

    /** One space of a side: packets sent, numbers that came, and its guards. */
    private static final class Space {
        static final int MOST_SENT = 4096;
        static final int ROW = 5;
        static final int SIZE = 0;
        static final int TIME = 1;
        static final int FLAGS = 2;
        static final int CARGO = 3;
        static final int FRAMES = 4;
        static final int OUT = 1;
        static final int ELICITING = 2;
        static final int COUNTED = 4;
        static final int FILLING = 8;
        static final int ACKNOWLEDGED = 16;
        private static final int MOST_RANGES = 64;
        private static final int PATIENT = 25;

        int[] rows = new int[16 * ROW];
        int sent;
        int greatest = -1;
        int lossTime = -1;
        int firstOut;
        int out;
        int elicitingOut;
        int lastEliciting;
        boolean discarded;

        final long[] low = new long[MOST_RANGES + 1];
        final long[] high = new long[MOST_RANGES + 1];
        int ranges;
        long floor;
        int pending;
        private boolean urgent;
        private int pendingSince;
        private int greatestAt;

        boolean armed;
        final byte[] sealing = new byte[Seals.GUARD];
        final byte[] opening = new byte[Seals.GUARD];
        int probes;

        boolean has(int number, int flags) {
            return (rows[number * ROW + FLAGS] & flags) == flags;
        }

        int of(int number, int column) {
            return rows[number * ROW + column];
        }

        void add(int size, int time, int flags, int cargo, int frames) {
            if (sent * ROW + ROW > rows.length) {
                rows = Arrays.copyOf(rows, 2 * rows.length);
            }
            int at = sent * ROW;
            rows[at + SIZE] = size;
            rows[at + TIME] = time;
            rows[at + FLAGS] = flags | OUT;
            rows[at + CARGO] = cargo;
            rows[at + FRAMES] = frames;
            sent++;
            out++;
            if ((flags & ELICITING) != 0) {
                elicitingOut++;
                lastEliciting = time;
            }
        }

        /** A packet is out no more; the flags told come to it. */
        void settle(int number, int flags) {
            int at = number * ROW + FLAGS;
            rows[at] = rows[at] & ~OUT | flags;
            out--;
            if ((rows[at] & ELICITING) != 0) {
                elicitingOut--;
            }
            while (firstOut < sent && !has(firstOut, OUT)) {
                firstOut++;
            }
        }

        /** The oldest eliciting packet that is out, or -1. */
        int oldest() {
            for (int n = firstOut; n < sent; n++) {
                if (has(n, OUT | ELICITING)) {
                    return n;
                }
            }
            return -1;
        }

        long greatestCame() {
            return ranges == 0 ? -1 : high[ranges - 1];
        }

        boolean isOld(long number) {
            for (int i = 0; i < ranges; i++) {
                if (number >= low[i] && number <= high[i]) {
                    return true;
                }
            }
            return number < floor;
        }

        void came(long number, boolean eliciting, int time) {
            long before = greatestCame();
            if (eliciting) {
                pendingSince = pending == 0 ? time : pendingSince;
                urgent |= number != before + 1;
                pending++;
            }
            if (number > before) {
                greatestAt = time;
            }
            include(number);
        }

        private void include(long number) {
            int i = ranges;
            while (i > 0 && low[i - 1] > number) {
                i--;
            }
            boolean below = i > 0 && high[i - 1] == number - 1;
            boolean above = i < ranges && low[i] == number + 1;
            if (below && above) {
                high[i - 1] = high[i];
                removeRange(i);
            } else if (below) {
                high[i - 1] = number;
            } else if (above) {
                low[i] = number;
            } else {
                insertRange(i, number);
            }
            if (ranges > MOST_RANGES) {
                floor = high[0] + 1;
                removeRange(0);
            }
        }

        private void removeRange(int at) {
            ranges--;
            for (int i = at; i < ranges; i++) {
                low[i] = low[i + 1];
                high[i] = high[i + 1];
            }
        }

        private void insertRange(int at, long number) {
            for (int i = ranges; i > at; i--) {
                low[i] = low[i - 1];
                high[i] = high[i - 1];
            }
            low[at] = number;
            high[at] = number;
            ranges++;
        }

        boolean isAckDue(boolean last, int time) {
            return pending > 0 && (!last || pending > 1 || urgent || time - pendingSince >= PATIENT);
        }

        int delay(int time) {
            return ranges == 0 ? 0 : time - greatestAt;
        }

        void ackWritten() {
            pending = 0;
            urgent = false;
        }

        void discard() {
            discarded = true;
            armed = false;
            probes = 0;
            out = 0;
            elicitingOut = 0;
            firstOut = sent;
            lossTime = -1;
            ranges = 0;
            floor = 0;
            ackWritten();
        }
    }

    /** What a side knows of its packets and of the way: acknowledgements, losses, probes and the window. */
    private static final class Book {
        static final int FULL = 1200;
        private static final int LEAST_WINDOW = 2400;
        private static final int MOST_DELAY = 25;
        private static final int MOST_BACKOFF = 10;

        final Space[] spaces = {new Space(), new Space(), new Space()};
        int time;
        int inFlight;
        int window = 12000;
        private int threshold = -1;
        private int recovery = -1;
        private int smooth = 800;
        private int vary = 200;
        private int latest;
        private int least = -1;
        private int backoff;
        private int firstSample = -1;
        private int lastSent;
        boolean anxious;
        boolean confirmed;
        /** What was found last, by rising numbers, in one space. */
        int foundIn;
        int[] acknowledged = new int[16];
        int acknowledgedCount;
        int[] lost = new int[16];
        int lostCount;

        int seen(int what) {
            switch (what) {
                case 0: return time;
                case 1: return inFlight;
                case 2: return window;
                case 3: return threshold;
                case 4: return recovery;
                case 5: return smooth;
                case 6: return vary;
                case 7: return latest;
                case 8: return least;
                case 9: return backoff;
                default: return limit();
            }
        }

        long seenSpace(int s, int what) {
            Space space = spaces[s];
            switch (what) {
                case 0: return space.sent;
                case 1: return space.greatest;
                case 2: return space.lossTime;
                case 3: return probeTime(s);
                case 4: return space.out;
                case 5: return space.elicitingOut;
                case 6: return space.ranges;
                case 7: return space.pending;
                case 8: return patience(s == 2 && confirmed);
                case 9: return space.discarded ? 1 : 0;
                case 10: return space.floor;
                default: return space.armed ? 1 : 0;
            }
        }

        int patience(boolean withDelay) {
            return smooth / 8 + Math.max(vary, 1) + (withDelay ? MOST_DELAY : 0);
        }

        private int limit() {
            return Math.max(9 * Math.max(smooth / 8, latest) / 8, 1);
        }

        void note(int s, int size, int flags, int cargo, int frames) {
            int all = flags;
            if ((flags & Space.COUNTED) != 0) {
                inFlight += size;
                all |= inFlight > window - FULL ? Space.FILLING : 0;
            }
            spaces[s].add(size, time, all, cargo, frames);
            lastSent = time;
        }

        /** An acknowledgement in a space, its ranges the greatest first: whether it is right. */
        boolean acknowledge(int s, long delay, long[] low, long[] high, int count) {
            Space space = spaces[s];
            acknowledgedCount = 0;
            lostCount = 0;
            if (space.discarded) {
                return true;
            }
            if (count < 1 || high[0] >= space.sent) {
                return false;
            }
            int greatest = (int) high[0];
            space.greatest = Math.max(space.greatest, greatest);
            findNew(s, low, high, count);
            if (acknowledgedCount == 0) {
                return true;
            }
            boolean eliciting = false;
            for (int i = 0; i < acknowledgedCount; i++) {
                eliciting |= space.has(acknowledged[i], Space.ELICITING);
            }
            if (eliciting && acknowledged[acknowledgedCount - 1] == greatest) {
                sample(time - space.of(greatest, Space.TIME), s < 2 ? 0 : (int) Math.min(delay, MOST_DELAY));
            }
            for (int i = 0; i < acknowledgedCount; i++) {
                arrive(space, acknowledged[i]);
            }
            losses(s);
            backoff = 0;
            return true;
        }

        private void findNew(int s, long[] low, long[] high, int count) {
            Space space = spaces[s];
            foundIn = s;
            int range = count - 1;
            for (int n = space.firstOut; n < space.sent; n++) {
                while (range >= 0 && high[range] < n) {
                    range--;
                }
                if (range >= 0 && low[range] <= n && space.has(n, Space.OUT)) {
                    acknowledged = roomFor(acknowledged, acknowledgedCount);
                    acknowledged[acknowledgedCount] = n;
                    acknowledgedCount++;
                }
            }
        }

        private static int[] roomFor(int[] list, int count) {
            return count < list.length ? list : Arrays.copyOf(list, 2 * list.length);
        }

        private void sample(int r, int delay) {
            latest = r;
            least = least < 0 ? r : Math.min(least, r);
            if (firstSample < 0) {
                firstSample = time;
                smooth = 8 * r;
                vary = 2 * r;
                return;
            }
            int counted = r >= least + delay ? r - delay : r;
            vary += Math.abs(smooth / 8 - counted) - vary / 4;
            smooth += counted - smooth / 8;
        }

        private void arrive(Space space, int n) {
            space.settle(n, Space.ACKNOWLEDGED);
            if (!space.has(n, Space.COUNTED)) {
                return;
            }
            int size = space.of(n, Space.SIZE);
            inFlight -= size;
            if (isAfterRecovery(space.of(n, Space.TIME)) && space.has(n, Space.FILLING)) {
                boolean below = threshold < 0 || window < threshold;
                window += below || window < 1 ? size : FULL * size / window;
            }
        }

        private boolean isAfterRecovery(int sentAt) {
            return recovery < 0 || sentAt > recovery;
        }

        private void losses(int s) {
            Space space = spaces[s];
            foundIn = s;
            lostCount = 0;
            space.lossTime = -1;
            int limit = limit();
            boolean fresh = false;
            for (int n = space.firstOut; n < space.greatest; n++) {
                if (!space.has(n, Space.OUT)) {
                    continue;
                }
                int sentAt = space.of(n, Space.TIME);
                if (n <= space.greatest - 3 || time - sentAt >= limit) {
                    fresh |= space.has(n, Space.COUNTED) && isAfterRecovery(sentAt);
                    lose(space, n);
                } else if (space.lossTime < 0 || sentAt + limit < space.lossTime) {
                    space.lossTime = sentAt + limit;
                }
            }
            if (fresh) {
                recovery = time;
                threshold = window / 2;
                window = Math.max(threshold, LEAST_WINDOW);
            }
            if (lostCount > 0 && firstSample >= 0 && isLongSilence(space)) {
                window = LEAST_WINDOW;
                recovery = -1;
            }
        }

        private void lose(Space space, int n) {
            space.settle(n, 0);
            if (space.has(n, Space.COUNTED)) {
                inFlight -= space.of(n, Space.SIZE);
            }
            lost = roomFor(lost, lostCount);
            lost[lostCount] = n;
            lostCount++;
        }

        /** Whether the eliciting ones lost now span so much time, with none between them acknowledged. */
        private boolean isLongSilence(Space space) {
            int first = -1;
            int last = -1;
            for (int i = 0; i < lostCount; i++) {
                int n = lost[i];
                if (space.has(n, Space.ELICITING) && space.of(n, Space.TIME) > firstSample) {
                    first = first < 0 ? n : first;
                    last = n;
                }
            }
            if (first < 0 || space.of(last, Space.TIME) - space.of(first, Space.TIME) <= 3 * patience(true)) {
                return false;
            }
            for (int n = first; n < last; n++) {
                if (space.has(n, Space.ACKNOWLEDGED)) {
                    return false;
                }
            }
            return true;
        }

        void discard(int s) {
            Space space = spaces[s];
            if (space.discarded) {
                return;
            }
            for (int n = space.firstOut; n < space.sent; n++) {
                if (space.has(n, Space.OUT | Space.COUNTED)) {
                    inFlight -= space.of(n, Space.SIZE);
                }
            }
            space.discard();
            backoff = 0;
        }

        private boolean isFirstKept(int s) {
            for (int i = 0; i < s; i++) {
                if (!spaces[i].discarded) {
                    return false;
                }
            }
            return true;
        }

        private boolean isNoneEliciting() {
            return spaces[0].elicitingOut + spaces[1].elicitingOut + spaces[2].elicitingOut == 0;
        }

        /** When a probe of a space is due, or -1. */
        private int probeTime(int s) {
            Space space = spaces[s];
            if (space.discarded || s == 2 && !confirmed) {
                return -1;
            }
            int since = space.lastEliciting;
            if (space.elicitingOut == 0) {
                if (!anxious || !isFirstKept(s) || !isNoneEliciting()) {
                    return -1;
                }
                since = lastSent;
            }
            return since + (patience(s == 2) << backoff);
        }

        /** One tick: 1 when losses were looked for, 2 + a space that is to be probed, or 0. */
        int pass() {
            time++;
            int best = -1;
            int bestTime = 0;
            for (int s = 0; s < 3; s++) {
                int loss = spaces[s].lossTime;
                if (loss >= 0 && loss <= time && (best < 0 || loss < bestTime)) {
                    best = s;
                    bestTime = loss;
                }
            }
            if (best >= 0) {
                acknowledgedCount = 0;
                losses(best);
                return 1;
            }
            for (int s = 0; s < 3; s++) {
                int probe = probeTime(s);
                if (probe >= 0 && probe <= time && (best < 0 || probe < bestTime)) {
                    best = s;
                    bestTime = probe;
                }
            }
            if (best < 0) {
                return 0;
            }
            backoff = Math.min(backoff + 1, MOST_BACKOFF);
            return 2 + best;
        }
    }

    /** What a side writes into a stream, and what became of each byte. */
    private static final class Sending {
        static final int OPEN = 0;
        static final int FINISHED = 1;
        static final int ARRIVED = 2;
        static final int RESET = 3;
        static final int RESET_HERE = 4;
        static final int NEW = 1;
        static final int OUT = 2;
        static final int LOST = 3;
        static final int HERE = 4;

        int state;
        byte[] bytes = new byte[0];
        private byte[] marks = new byte[0];
        int written;
        int sent;
        long limit;
        long code;
        private int lost;
        private int here;
        private int end;
        private int firstLost;
        boolean resetDue;
        long blockedAt = -1;
        /** What it has to send next. */
        int from;
        int length;

        Sending(long limit) {
            this.limit = limit;
        }

        /** A row with room for so many bytes, grown by doubling. */
        static byte[] widened(byte[] row, int need) {
            if (need <= row.length) {
                return row;
            }
            int room = Math.max(row.length, 32);
            for (int i = 0; i < 20 && room < need; i++) {
                room *= 2;
            }
            return Arrays.copyOf(row, room);
        }

        long seen(int what) {
            switch (what) {
                case 0: return state;
                case 1: return written;
                case 2: return sent;
                case 3: return limit;
                case 4: return code;
                case 5: return lost;
                case 6: return here;
                default: return end;
            }
        }

        boolean isLive() {
            return state == OPEN || state == FINISHED;
        }

        boolean hasUnsent() {
            return (state == OPEN || state == FINISHED) && written > sent;
        }

        void put(byte[] source, int at, int size) {
            bytes = widened(bytes, written + size);
            marks = widened(marks, written + size);
            System.arraycopy(source, at, bytes, written, size);
            written += size;
        }

        void finishUp() {
            state = FINISHED;
            end = NEW;
        }

        void resetWith(long why) {
            state = RESET;
            code = why;
            resetDue = true;
        }

        /** Finds what it has to send, new bytes no more than allowed: whether there is something. */
        boolean choose(long allowed) {
            if (lost > 0) {
                while (firstLost < sent && marks[firstLost] != LOST) {
                    firstLost++;
                }
                int to = firstLost;
                while (to < sent && marks[to] == LOST) {
                    to++;
                }
                from = firstLost;
                length = to - from;
                return true;
            }
            from = sent;
            length = 0;
            if (sent < written) {
                length = (int) Math.min(Math.min(written, limit) - sent, allowed);
                return length > 0;
            }
            return state == FINISHED && (end == NEW || end == LOST);
        }

        /** The first so many of the bytes that were chosen go out; whether the end goes with them. */
        boolean goOut(int size) {
            for (int i = from; i < from + size; i++) {
                lost -= marks[i] == LOST ? 1 : 0;
                marks[i] = OUT;
            }
            sent = Math.max(sent, from + size);
            boolean withEnd = state == FINISHED && from + size == written;
            if (withEnd && end != HERE) {
                end = OUT;
            }
            return withEnd;
        }

        /** What became of bytes that were sent, and of the end. */
        void become(int at, int size, boolean withEnd, boolean arrived) {
            int to = Math.min(at + size, sent);
            for (int i = at; i < to; i++) {
                if (marks[i] == HERE) {
                    continue;
                }
                lost -= marks[i] == LOST ? 1 : 0;
                here += arrived ? 1 : 0;
                lost += arrived ? 0 : 1;
                marks[i] = (byte) (arrived ? HERE : LOST);
            }
            if (withEnd && end != HERE) {
                end = arrived ? HERE : LOST;
            }
            if (!arrived) {
                firstLost = Math.min(firstLost, at);
            }
            if (state == FINISHED && here == written && end == HERE) {
                state = ARRIVED;
            }
        }
    }

    /** What a side gets of a stream. */
    private static final class Receiving {
        static final int OPEN = 0;
        static final int SIZED = 1;
        static final int WHOLE = 2;
        static final int READ = 3;
        static final int RESET = 4;

        int state;
        byte[] bytes = new byte[0];
        private byte[] have = new byte[0];
        int read;
        int ready;
        int highest;
        int size = -1;
        int grant;
        long code;
        boolean stopAsked;
        boolean stopDue;
        int stopCode;
        boolean telling;

        Receiving(int grant) {
            this.grant = grant;
        }

        long seen(int what) {
            switch (what) {
                case 8: return state;
                case 9: return read;
                case 10: return ready;
                case 11: return highest;
                case 12: return size;
                case 13: return grant;
                default: return code;
            }
        }

        boolean isLive() {
            return state == OPEN || state == SIZED;
        }

        /** Bytes come to their places; over: also where some were, but not where they are ready, and so taken. */
        void put(byte[] source, int from, int count, int at, boolean over) {
            bytes = Sending.widened(bytes, at + count);
            have = Sending.widened(have, at + count);
            for (int i = 0; i < count; i++) {
                boolean isFree = over ? at + i >= ready : have[at + i] == 0;
                if (isFree) {
                    bytes[at + i] = source[from + i];
                    have[at + i] = 1;
                }
            }
            while (ready < have.length && have[ready] != 0) {
                ready++;
            }
        }

        void updateState() {
            if (size < 0 || state == RESET) {
                return;
            }
            state = ready < size ? SIZED : read < size ? WHOLE : READ;
        }
    }

    /** The streams of a side. Rows by parameter ids: 4 all data, 5 to 7 of a stream, 8 and 9 how many. */
    private static final class Streams {
        static final int KIND = 0;
        static final int ID = 1;
        static final int FROM = 2;
        static final int SIZE = 3;
        static final int FIN = 4;
        static final int FRAME = 5;
        private static final int IDS = 256;
        private static final int MOST_BYTES = 65536;
        private static final int MOST_COUNT = 64;
        private static final int ERROR_FLOW = 3;
        private static final int ERROR_LIMIT = 4;
        private static final int ERROR_STATE = 5;
        private static final int ERROR_SIZE = 6;
        /** Every frame fits in so many bytes, if only its first byte of data is to. */
        private static final int WIDE = 64;

        private final int side;
        private final int[] set;
        private final Sending[] sendings = new Sending[IDS];
        private final Receiving[] receivings = new Receiving[IDS];
        private final boolean[] over = new boolean[IDS];
        /** How many are there, by way: opened here, opened by the other side. */
        private final int[] mine = new int[2];
        private final int[] theirs = new int[2];
        final long[] limits = new long[10];
        final int[] granted;
        private final boolean[] telling = new boolean[10];
        private final long[] blockedAt = {-1, -1, -1, -1, -1, -1, -1, -1, -1, -1};
        private final long[] refusedAt = {-1, -1, -1, -1, -1, -1, -1, -1, -1, -1};
        private long sentAll;
        private long received;
        private long consumed;
        private int writtenAll;
        private int top;
        private int last = IDS - 1;
        /** Nothing is to be sent until something happens: spares the search in quiet ticks. */
        private boolean asleep;
        private final long[] parts = new long[3];
        /** The frame that was filled last. */
        final int[] filled = new int[FRAME];

        Streams(int side, int[] set) {
            this.side = side;
            this.set = set;
            granted = set.clone();
        }

        long seen(int what) {
            switch (what) {
                case 0: return sentAll;
                case 1: return limits[4];
                case 2: return received;
                case 3: return consumed;
                case 4: return granted[4];
                case 5: case 6: return mine[what - 5];
                case 7: case 8: return limits[what + 1];
                case 9: case 10: return theirs[what - 9];
                case 11: case 12: return granted[what - 3];
                default: return writtenAll;
            }
        }

        Sending sendingOf(int id) {
            return id < 0 || id >= IDS ? null : sendings[id];
        }

        Receiving receivingOf(int id) {
            return id < 0 || id >= IDS ? null : receivings[id];
        }

        private static int wayOf(int id) {
            return id / 2 % 2;
        }

        private boolean isMine(int id) {
            return id % 2 == side;
        }

        /** The own parameter that grants the bytes of a stream. */
        private int grantOf(int id) {
            return wayOf(id) == 1 ? 7 : isMine(id) ? 5 : 6;
        }

        private void make(int id) {
            boolean both = id / 2 % 2 == 0;
            boolean own = id % 2 == side;
            if (own || both) {
                sendings[id] = new Sending(limits[!both ? 7 : own ? 6 : 5]);
            }
            if (!own || both) {
                receivings[id] = new Receiving(set[!both ? 7 : own ? 5 : 6]);
            }
            top = Math.max(top, id + 1);
        }

        void learnLimits(long[] told) {
            asleep = false;
            for (int id = 4; id < 10; id++) {
                limits[id] = id < 8 ? told[id] : Math.min(told[id], MOST_COUNT);
            }
        }

        int opened(int way) {
            asleep = false;
            if (mine[way] >= limits[8 + way] || mine[way] >= MOST_COUNT) {
                refusedAt[8 + way] = limits[8 + way];
                return -1;
            }
            int id = 4 * mine[way] + 2 * way + side;
            mine[way]++;
            make(id);
            return id;
        }

        int written(int id, byte[] from, int size) {
            asleep = false;
            Sending sending = sendingOf(id);
            if (sending == null || sending.state != Sending.OPEN) {
                return -1;
            }
            int taken = Math.min(size, MOST_BYTES - writtenAll);
            sending.put(from, 0, taken);
            writtenAll += taken;
            return taken;
        }

        boolean finished(int id) {
            asleep = false;
            Sending sending = sendingOf(id);
            if (sending == null || sending.state != Sending.OPEN) {
                return false;
            }
            sending.finishUp();
            return true;
        }

        boolean wasReset(int id, int code) {
            asleep = false;
            Sending sending = sendingOf(id);
            if (sending == null || !sending.isLive()) {
                return false;
            }
            sending.resetWith(code);
            return true;
        }

        boolean stopped(int id, int code) {
            asleep = false;
            Receiving receiving = receivingOf(id);
            if (receiving == null || !receiving.isLive() || receiving.stopAsked) {
                return false;
            }
            receiving.stopAsked = true;
            receiving.stopDue = true;
            receiving.stopCode = code;
            return true;
        }

        int handOut(int id, int most, byte[] to) {
            asleep = false;
            Receiving receiving = receivingOf(id);
            if (receiving == null) {
                return -1;
            }
            if (receiving.state == Receiving.RESET) {
                return -2;
            }
            int size = Math.min(Math.min(most, to.length), receiving.ready - receiving.read);
            System.arraycopy(receiving.bytes, receiving.read, to, 0, size);
            receiving.read += size;
            consumed += size;
            receiving.updateState();
            growData();
            if (receiving.state == Receiving.OPEN) {
                growGrant(receiving, set[grantOf(id)]);
            }
            checkOver(id);
            return size;
        }

        private void growData() {
            long sum = consumed + set[4];
            long grown = Math.min(sum, MOST_BYTES);
            if (2 * (sum - granted[4]) >= set[4] && grown > granted[4]) {
                granted[4] = (int) grown;
                telling[4] = true;
            }
        }

        private void growGrant(Receiving receiving, int grant) {
            int sum = receiving.read + grant;
            int grown = Math.min(sum, MOST_BYTES);
            if (2 * (sum - receiving.grant) >= grant && grown > receiving.grant) {
                receiving.grant = grown;
                receiving.telling = true;
            }
        }

        /** When a stream of the other side's is over, it may open one more. */
        private void checkOver(int id) {
            if (isMine(id) || over[id]) {
                return;
            }
            Receiving receiving = receivings[id];
            Sending sending = sendings[id];
            boolean got = receiving == null || receiving.state == Receiving.READ || receiving.state == Receiving.RESET;
            boolean gone = sending == null || sending.state == Sending.ARRIVED || sending.state == Sending.RESET_HERE;
            if (!got || !gone) {
                return;
            }
            over[id] = true;
            int count = 8 + wayOf(id);
            if (granted[count] < MOST_COUNT) {
                granted[count]++;
                telling[count] = true;
            }
        }

        /** Takes a frame that is of no stream. */
        void takeOfAll(Reader frame) {
            asleep = false;
            if (frame.kind == Reader.MAX_DATA) {
                limits[4] = Math.max(limits[4], frame.a);
            } else if (frame.kind == Reader.MAX_STREAMS || frame.kind == Reader.MAX_STREAMS + 1) {
                int count = 8 + frame.kind - Reader.MAX_STREAMS;
                limits[count] = Math.max(limits[count], Math.min(frame.a, MOST_COUNT));
            }
        }

        /** Takes a frame of a stream: its error, or 0. */
        int take(Reader frame) {
            asleep = false;
            boolean aboutSending = frame.kind == Reader.STOP || frame.kind == Reader.MAX_STREAM_DATA;
            boolean own = frame.a % 2 == side;
            int way = (int) (frame.a / 2 % 2);
            if (own && frame.a / 4 >= mine[way] || way == 1 && own != aboutSending) {
                return ERROR_STATE;
            }
            if (!own && frame.a / 4 >= granted[8 + way]) {
                return ERROR_LIMIT;
            }
            int id = (int) frame.a;
            if (frame.kind == Reader.STREAM || frame.kind == Reader.RESET) {
                int error = wrongSize(frame, id);
                if (error != 0) {
                    return error;
                }
            }
            bringUpTo(id);
            if (frame.kind == Reader.STREAM) {
                takeBytes(frame, id);
            } else if (frame.kind == Reader.RESET) {
                takeReset(frame, id);
            } else if (aboutSending) {
                takeForSending(frame, id);
            }
            return 0;
        }

        /** A stream of the other side's is there, and all before it. */
        private void bringUpTo(int id) {
            if (isMine(id)) {
                return;
            }
            int way = wayOf(id);
            for (int i = theirs[way]; i <= id / 4; i++) {
                make(4 * i + id % 4);
            }
            theirs[way] = Math.max(theirs[way], id / 4 + 1);
        }

        /** What is wrong with the offsets of a STREAM or RESET for a stream that need not be there yet. */
        private int wrongSize(Reader frame, int id) {
            Receiving receiving = receivings[id];
            int size = receiving == null ? -1 : receiving.size;
            int highest = receiving == null ? 0 : receiving.highest;
            int grant = receiving == null ? set[grantOf(id)] : receiving.grant;
            boolean isEnd = frame.kind == Reader.RESET || frame.c == 1;
            long to = frame.kind == Reader.RESET ? frame.c : frame.b + frame.dataSize;
            if (size >= 0 && (to > size || isEnd && to != size) || isEnd && to < highest) {
                return ERROR_SIZE;
            }
            if (to > grant || received + Math.max(to - highest, 0) > granted[4]) {
                return ERROR_FLOW;
            }
            return 0;
        }

        private void raiseHighest(Receiving receiving, int to) {
            if (to > receiving.highest) {
                received += to - receiving.highest;
                receiving.highest = to;
            }
        }

        private void takeBytes(Reader frame, int id) {
            Receiving receiving = receivings[id];
            if (receiving == null) {
                return;
            }
            int from = (int) frame.b;
            raiseHighest(receiving, from + frame.dataSize);
            if (frame.c == 1) {
                receiving.size = from + frame.dataSize;
            }
            if (receiving.isLive()) {
                receiving.put(frame.bytes, frame.dataAt, frame.dataSize, from, false);
                receiving.updateState();
                checkOver(id);
            }
        }

        private void takeReset(Reader frame, int id) {
            Receiving receiving = receivings[id];
            if (receiving == null) {
                return;
            }
            int size = (int) frame.c;
            raiseHighest(receiving, size);
            if (receiving.isLive()) {
                receiving.state = Receiving.RESET;
                receiving.code = frame.b;
                receiving.size = size;
                consumed += size - receiving.read;
                growData();
                checkOver(id);
            }
        }

        private void takeForSending(Reader frame, int id) {
            Sending sending = sendings[id];
            if (sending == null) {
                return;
            }
            if (frame.kind == Reader.MAX_STREAM_DATA) {
                sending.limit = Math.max(sending.limit, frame.b);
            } else if (sending.isLive()) {
                sending.resetWith(frame.b);
            }
        }

        /** Fills a frame of at most so many bytes: its size, or 0. */
        int fill(byte[] to, int at, int room) {
            if (asleep) {
                return 0;
            }
            int size = fillReset(to, at, room);
            size = size > 0 ? size : fillStop(to, at, room);
            size = size > 0 ? size : fillMax(4, Reader.MAX_DATA, to, at, room);
            size = size > 0 ? size : fillStreamMax(to, at, room);
            size = size > 0 ? size : fillMax(8, Reader.MAX_STREAMS, to, at, room);
            size = size > 0 ? size : fillMax(9, Reader.MAX_STREAMS + 1, to, at, room);
            size = size > 0 ? size : fillBlocked(4, Reader.DATA_BLOCKED, to, at, room);
            size = size > 0 ? size : fillStreamBlocked(to, at, room);
            size = size > 0 ? size : fillBlocked(8, Reader.STREAMS_BLOCKED, to, at, room);
            size = size > 0 ? size : fillBlocked(9, Reader.STREAMS_BLOCKED + 1, to, at, room);
            size = size > 0 ? size : fillBytes(to, at, room);
            asleep = size == 0 && room >= WIDE;
            return size;
        }

        private void describe(int kind, int id, int from) {
            filled[KIND] = kind;
            filled[ID] = id;
            filled[FROM] = from;
            filled[SIZE] = 0;
            filled[FIN] = 0;
        }

        /** Writes a frame of the first so many parts, if it fits: its size, or 0. */
        private int putParts(byte[] to, int at, int room, int kind, int count) {
            int size = 1;
            for (int i = 0; i < count; i++) {
                size += Reader.sizeOf(parts[i]);
            }
            if (size > room) {
                return 0;
            }
            to[at] = (byte) kind;
            int next = at + 1;
            for (int i = 0; i < count; i++) {
                next = Reader.putNumber(to, next, parts[i]);
            }
            return size;
        }

        private int fillReset(byte[] to, int at, int room) {
            for (int id = 0; id < top; id++) {
                Sending sending = sendings[id];
                if (sending != null && sending.state == Sending.RESET && sending.resetDue) {
                    parts[0] = id;
                    parts[1] = sending.code;
                    parts[2] = sending.sent;
                    int size = putParts(to, at, room, Reader.RESET, 3);
                    if (size > 0) {
                        sending.resetDue = false;
                        describe(Reader.RESET, id, 0);
                        return size;
                    }
                }
            }
            return 0;
        }

        private int fillStop(byte[] to, int at, int room) {
            for (int id = 0; id < top; id++) {
                Receiving receiving = receivings[id];
                if (receiving != null && receiving.isLive() && receiving.stopDue) {
                    parts[0] = id;
                    parts[1] = receiving.stopCode;
                    int size = putParts(to, at, room, Reader.STOP, 2);
                    if (size > 0) {
                        receiving.stopDue = false;
                        describe(Reader.STOP, id, 0);
                        return size;
                    }
                }
            }
            return 0;
        }

        private int fillMax(int grant, int kind, byte[] to, int at, int room) {
            parts[0] = granted[grant];
            int size = telling[grant] ? putParts(to, at, room, kind, 1) : 0;
            if (size > 0) {
                telling[grant] = false;
                describe(kind, 0, granted[grant]);
            }
            return size;
        }

        private int fillStreamMax(byte[] to, int at, int room) {
            for (int id = 0; id < top; id++) {
                Receiving receiving = receivings[id];
                if (receiving != null && receiving.state == Receiving.OPEN && receiving.telling) {
                    parts[0] = id;
                    parts[1] = receiving.grant;
                    int size = putParts(to, at, room, Reader.MAX_STREAM_DATA, 2);
                    if (size > 0) {
                        receiving.telling = false;
                        describe(Reader.MAX_STREAM_DATA, id, receiving.grant);
                        return size;
                    }
                }
            }
            return 0;
        }

        /** Whether the limit of all data, or of how many streams, holds something up. */
        private boolean isBlocked(int grant) {
            if (grant != 4) {
                return refusedAt[grant] == limits[grant];
            }
            boolean unsent = false;
            for (int id = 0; id < top && !unsent && sentAll >= limits[4]; id++) {
                unsent = sendings[id] != null && sendings[id].hasUnsent();
            }
            return unsent;
        }

        private int fillBlocked(int grant, int kind, byte[] to, int at, int room) {
            if (blockedAt[grant] == limits[grant] || !isBlocked(grant)) {
                return 0;
            }
            parts[0] = limits[grant];
            int size = putParts(to, at, room, kind, 1);
            if (size > 0) {
                blockedAt[grant] = limits[grant];
                describe(kind, 0, (int) limits[grant]);
            }
            return size;
        }

        private int fillStreamBlocked(byte[] to, int at, int room) {
            for (int id = 0; id < top; id++) {
                Sending sending = sendings[id];
                boolean full = sending != null && sending.hasUnsent() && sending.sent == sending.limit;
                if (full && sending.blockedAt != sending.limit) {
                    parts[0] = id;
                    parts[1] = sending.limit;
                    int size = putParts(to, at, room, Reader.STREAM_DATA_BLOCKED, 2);
                    if (size > 0) {
                        sending.blockedAt = sending.limit;
                        describe(Reader.STREAM_DATA_BLOCKED, id, sending.sent);
                        return size;
                    }
                }
            }
            return 0;
        }

        private int fillBytes(byte[] to, int at, int room) {
            for (int i = 1; i <= IDS; i++) {
                int id = (last + i) % IDS;
                Sending sending = sendings[id];
                if (sending == null || !sending.isLive() || !sending.choose(limits[4] - sentAll)) {
                    continue;
                }
                int from = sending.from;
                int left = room - 1 - Reader.sizeOf(id) - (from == 0 ? 0 : Reader.sizeOf(from));
                int size = fitting(sending.length, left);
                if (size < 0) {
                    continue;
                }
                int sentBefore = sending.sent;
                boolean withEnd = sending.goOut(size);
                sentAll += sending.sent - sentBefore;
                to[at] = (byte) (Reader.STREAM + (from == 0 ? 0 : 4) + 2 + (withEnd ? 1 : 0));
                int next = Reader.putNumber(to, at + 1, id);
                next = from == 0 ? next : Reader.putNumber(to, next, from);
                next = Reader.putNumber(to, next, size);
                System.arraycopy(sending.bytes, from, to, next, size);
                describe(Reader.STREAM, id, from);
                filled[SIZE] = size;
                filled[FIN] = withEnd ? 1 : 0;
                last = id;
                return next + size - at;
            }
            return 0;
        }

        /** How many of so many bytes fit in what is left, together with their number; -1 if none does. */
        private static int fitting(int length, int left) {
            int size = Math.min(length, left - 1);
            if (size > 63) {
                size = Math.max(Math.min(length, left - 2), 63);
            }
            return left < 1 || size < 1 && length > 0 ? -1 : size;
        }

        /** What became of a frame: a row of the cargo, from a place on. */
        void become(int[] cargo, int at, boolean arrived) {
            asleep = false;
            int kind = cargo[at + KIND];
            int id = cargo[at + ID];
            int from = cargo[at + FROM];
            if (kind == Reader.STREAM || kind == Reader.RESET || kind == Reader.STREAM_DATA_BLOCKED) {
                Sending sending = sendingOf(id);
                if (sending != null) {
                    becomeOfSending(sending, cargo, at, arrived);
                    checkOver(id);
                }
            } else if (!arrived && (kind == Reader.STOP || kind == Reader.MAX_STREAM_DATA)) {
                Receiving receiving = receivingOf(id);
                if (receiving != null) {
                    receiving.stopDue |= kind == Reader.STOP;
                    receiving.telling |= kind == Reader.MAX_STREAM_DATA && receiving.grant == from;
                }
            } else if (!arrived) {
                loseOfAll(kind, from);
            }
        }

        private void becomeOfSending(Sending sending, int[] cargo, int at, boolean arrived) {
            int from = cargo[at + FROM];
            if (cargo[at + KIND] == Reader.STREAM) {
                sending.become(from, cargo[at + SIZE], cargo[at + FIN] == 1, arrived);
            } else if (cargo[at + KIND] == Reader.RESET) {
                sending.resetDue |= !arrived;
                if (arrived && sending.state == Sending.RESET) {
                    sending.state = Sending.RESET_HERE;
                }
            } else if (!arrived && sending.blockedAt == from) {
                sending.blockedAt = -1;
            }
        }

        private void loseOfAll(int kind, int value) {
            int grant = kind == Reader.MAX_DATA || kind == Reader.DATA_BLOCKED ? 4 : 8 + kind % 2;
            if (kind < Reader.DATA_BLOCKED) {
                telling[grant] |= granted[grant] == value;
            } else if (blockedAt[grant] == value) {
                blockedAt[grant] = -1;
            }
        }
    }

    /** What a side has to send: it makes datagrams of it, and keeps what each packet carried. */
    private static final class Outbox {
        static final int MOST = 1200;
        private static final int MOST_CARGO = 15000;
        private static final int FRAMES_A_PACKET = 1200;
        private static final int[] HEADS = {26, 25, 9};
        private static final int PACKET = 5;
        private static final int START = 0;
        /** Behind the frames; -1 without a packet. */
        private static final int END = 1;
        private static final int FLAGS = 2;
        private static final int CARGO = 3;
        private static final int FRAMES = 4;

        private final Seals seals;
        private final Book book;
        private final Streams streams;
        private final Greeting greeting;
        /** The name that it writes to. */
        final byte[] to = new byte[Reader.NAME];
        final byte[] raw = new byte[MOST_RAW];
        int rawSize;
        boolean doneDue;
        private boolean doneHere;
        boolean responseDue;
        long response;
        boolean closeDue;
        int closeKind;
        int closeCode;
        private final int[] own = new int[Streams.FRAME];
        private int[] cargo = new int[16 * Streams.FRAME];
        int cargoCount;
        final byte[] bytes = new byte[MOST];
        private int pos;
        private int limit;
        /** The packets of the datagram that is made, by space. */
        private final int[][] packets = new int[3][PACKET];
        boolean elicited;

        Outbox(Seals seals, Book book, Streams streams, Greeting greeting) {
            this.seals = seals;
            this.book = book;
            this.streams = streams;
            this.greeting = greeting;
        }

        boolean isUsedUp() {
            boolean full = cargoCount >= MOST_CARGO;
            for (int s = 0; s < 3; s++) {
                full |= book.spaces[s].armed && book.spaces[s].sent >= Space.MOST_SENT;
            }
            return full;
        }

        boolean hasPacketOf(int s) {
            return packets[s][END] >= 0;
        }

        private static int numberSize(Space space) {
            int ahead = space.sent - space.greatest;
            return ahead <= 32768 ? 2 : ahead <= 8388608 ? 3 : 4;
        }

        /** Makes a datagram of at most so many bytes, and notes its packets in the book: its size, or 0. */
        int datagram(int most, boolean first, boolean closing) {
            int used = 0;
            int lastOne = -1;
            elicited = false;
            for (int s = 0; s < 3; s++) {
                Space space = book.spaces[s];
                int[] packet = packets[s];
                int room = most - used - HEADS[s] - 4 - Seals.TAG;
                packet[START] = used;
                packet[END] = -1;
                packet[FLAGS] = 0;
                packet[CARGO] = cargoCount;
                if (!space.armed || room < 4) {
                    continue;
                }
                int number = used + HEADS[s];
                int from = number + numberSize(space);
                pos = from;
                limit = from + room;
                int size = closing ? fillClose(s) : fill(s, first);
                if (size > 0) {
                    packet[END] = from + size;
                    packet[FRAMES] = cargoCount - packet[CARGO];
                    pad(packet, number + 4);
                    used = packet[END] + Seals.TAG;
                    lastOne = s;
                }
            }
            if (lastOne < 0) {
                return 0;
            }
            if (hasPacketOf(0) && (packets[0][FLAGS] & Space.ELICITING) != 0) {
                pad(packets[lastOne], most - Seals.TAG);
                used = packets[lastOne][END] + Seals.TAG;
            }
            for (int s = 0; s < 3; s++) {
                if (hasPacketOf(s)) {
                    finishPacket(s);
                }
            }
            return used;
        }

        private void pad(int[] packet, int end) {
            if (packet[END] < end) {
                Arrays.fill(bytes, packet[END], end, (byte) 0);
                packet[END] = end;
                packet[FLAGS] |= Space.COUNTED;
            }
        }

        private int fillClose(int s) {
            boolean hidden = s < 2 && closeKind == Reader.CLOSE_BY_APPLICATION;
            int kind = hidden ? Reader.CLOSE : closeKind;
            int code = hidden ? 12 : closeCode;
            int size = 1 + Reader.sizeOf(code) + (kind == Reader.CLOSE ? 2 : 1);
            if (!closeDue || size > limit - pos) {
                return 0;
            }
            int from = pos;
            bytes[from] = (byte) kind;
            int next = Reader.putNumber(bytes, from + 1, code);
            Arrays.fill(bytes, next, from + size, (byte) 0);
            return size;
        }

        /** The frames of a packet of a space: their size, or 0. */
        private int fill(int s, boolean first) {
            Space space = book.spaces[s];
            int from = pos;
            if (s == 2 && first && rawSize > 0 && rawSize <= limit - pos) {
                packets[s][FLAGS] = Space.ELICITING | Space.COUNTED;
                System.arraycopy(raw, 0, bytes, pos, rawSize);
                pos += rawSize;
                rawSize = 0;
                return pos - from;
            }
            boolean due = space.isAckDue(s == 2, book.time);
            if (space.pending > 0) {
                putAck(space);
            }
            int behindAck = pos;
            if (space.probes > 0 || book.inFlight < book.window) {
                if (s == 2) {
                    putOwnFrames();
                }
                int[] frame = s < 2 ? own : streams.filled;
                for (int i = 0; i < FRAMES_A_PACKET; i++) {
                    int size = s < 2 ? fillCrypto(s) : streams.fill(bytes, pos, limit - pos);
                    if (size == 0) {
                        break;
                    }
                    pos += size;
                    carry(frame);
                }
            }
            if (pos == behindAck && space.probes > 0 && pos < limit) {
                bytes[pos] = Reader.PING;
                pos++;
            }
            if (pos > behindAck) {
                packets[s][FLAGS] = Space.ELICITING | Space.COUNTED;
            } else if (!due) {
                return 0;
            }
            if (behindAck > from) {
                space.ackWritten();
            }
            return pos - from;
        }

        private void putAck(Space space) {
            long[] low = space.low;
            long[] high = space.high;
            int first = space.ranges - 1;
            int delay = space.delay(book.time);
            if (first < 0) {
                return;
            }
            int size = 2 + Reader.sizeOf(high[first]) + Reader.sizeOf(delay) + Reader.sizeOf(high[first] - low[first]);
            if (size > limit - pos) {
                return;
            }
            int more = 0;
            for (int k = first - 1; k >= 0; k--) {
                size += Reader.sizeOf(low[k + 1] - high[k] - 2) + Reader.sizeOf(high[k] - low[k]);
                if (size > limit - pos) {
                    break;
                }
                more++;
            }
            bytes[pos] = Reader.ACK;
            pos = Reader.putNumber(bytes, pos + 1, high[first]);
            pos = Reader.putNumber(bytes, pos, delay);
            pos = Reader.putNumber(bytes, pos, more);
            pos = Reader.putNumber(bytes, pos, high[first] - low[first]);
            for (int k = first - 1; k >= first - more; k--) {
                pos = Reader.putNumber(bytes, pos, low[k + 1] - high[k] - 2);
                pos = Reader.putNumber(bytes, pos, high[k] - low[k]);
            }
        }

        private void putOwnFrames() {
            if (doneDue && limit - pos >= 1) {
                doneDue = false;
                bytes[pos] = Reader.DONE;
                pos++;
                carryOwn(Reader.DONE);
            }
            if (responseDue && limit - pos >= 9) {
                responseDue = false;
                bytes[pos] = Reader.RESPONSE;
                for (int i = 0; i < 8; i++) {
                    bytes[pos + 1 + i] = (byte) (response >>> 56 - 8 * i);
                }
                pos += 9;
                carryOwn(Reader.RESPONSE);
            }
        }

        private int fillCrypto(int s) {
            Sending goes = greeting.goes[s];
            if (!goes.choose(Reader.MOST_NUMBER)) {
                return 0;
            }
            int from = goes.from;
            // The size of the data has room for two bytes, however few it needs.
            int size = Math.min(goes.length, limit - pos - 3 - Reader.sizeOf(from));
            if (size < 1) {
                return 0;
            }
            goes.goOut(size);
            bytes[pos] = Reader.CRYPTO;
            int next = Reader.putNumber(bytes, pos + 1, from);
            next = Reader.putNumber(bytes, next, size);
            System.arraycopy(goes.bytes, from, bytes, next, size);
            own[Streams.KIND] = Reader.CRYPTO;
            own[Streams.ID] = s;
            own[Streams.FROM] = from;
            own[Streams.SIZE] = size;
            return next + size - pos;
        }

        private void carryOwn(int kind) {
            Arrays.fill(own, 0);
            own[Streams.KIND] = kind;
            carry(own);
        }

        private void carry(int[] frame) {
            int at = cargoCount * Streams.FRAME;
            if (at + Streams.FRAME > cargo.length) {
                cargo = Arrays.copyOf(cargo, 2 * cargo.length);
            }
            System.arraycopy(frame, 0, cargo, at, Streams.FRAME);
            cargoCount++;
        }

        private void finishPacket(int s) {
            Space space = book.spaces[s];
            int[] packet = packets[s];
            int from = packet[START];
            int numberSize = numberSize(space);
            int place = from + HEADS[s];
            putHead(s, numberSize);
            for (int i = 0; i < numberSize; i++) {
                bytes[place + i] = (byte) (space.sent >>> 8 * (numberSize - 1 - i));
            }
            seals.seal(space.sealing, bytes, from, place + numberSize, packet[END], space.sent);
            seals.makeMask(space.sealing, bytes, place + 4);
            bytes[from] ^= (byte) (seals.block[0] & (s == 2 ? 31 : 15));
            for (int i = 0; i < numberSize; i++) {
                bytes[place + i] ^= seals.block[1 + i];
            }
            book.note(s, packet[END] + Seals.TAG - from, packet[FLAGS], packet[CARGO], packet[FRAMES]);
            if ((packet[FLAGS] & Space.ELICITING) != 0) {
                elicited = true;
                space.probes = Math.max(space.probes - 1, 0);
            }
        }

        private void putHead(int s, int numberSize) {
            int from = packets[s][START];
            if (s == 2) {
                bytes[from] = (byte) (64 + numberSize - 1);
                System.arraycopy(to, 0, bytes, from + 1, Reader.NAME);
                return;
            }
            bytes[from] = (byte) (192 + 32 * s + numberSize - 1);
            bytes[from + 1] = 0;
            bytes[from + 2] = 0;
            bytes[from + 3] = 0;
            bytes[from + 4] = 1;
            bytes[from + 5] = Reader.NAME;
            System.arraycopy(to, 0, bytes, from + 6, Reader.NAME);
            bytes[from + 14] = Reader.NAME;
            System.arraycopy(greeting.random, 0, bytes, from + 15, Reader.NAME);
            bytes[from + 23] = 0;
            int lengthAt = from + HEADS[s] - 2;
            int length = packets[s][END] + Seals.TAG - lengthAt - 2;
            bytes[lengthAt] = (byte) (64 + (length >>> 8));
            bytes[lengthAt + 1] = (byte) length;
        }

        /** What became of a packet is told of all that it carried. */
        void become(Space space, int n, boolean arrived) {
            int from = space.of(n, Space.CARGO);
            int to = from + space.of(n, Space.FRAMES);
            for (int i = from; i < to; i++) {
                int at = i * Streams.FRAME;
                int kind = cargo[at + Streams.KIND];
                if (kind == Reader.CRYPTO) {
                    Sending goes = greeting.goes[cargo[at + Streams.ID]];
                    goes.become(cargo[at + Streams.FROM], cargo[at + Streams.SIZE], false, arrived);
                } else if (kind == Reader.DONE) {
                    doneHere |= arrived;
                    doneDue |= !doneHere;
                } else if (kind != Reader.RESPONSE) {
                    streams.become(cargo, at, arrived);
                }
            }
        }
    }

    /** One endpoint. */
    private static final class Side {
        static final int IDLE = 0;
        static final int GREETING = 1;
        static final int OPEN = 2;
        static final int CLOSING = 3;
        static final int DRAINING = 4;
        static final int ENDED = 5;
        private static final int MOST_DATAGRAMS = 16;
        private static final int MOST_CRYPTO = 2048;
        private static final int ERROR_FRAME = 7;
        private static final int ERROR_PARAMETERS = 8;
        private static final int ERROR_PROTOCOL = 10;
        private static final int ERROR_CRYPTO = 13;

        private final int index;
        private final Seals seals;
        private final Reader reader;
        private final Reader notes = new Reader();
        final int[] set;
        final Book book;
        final Streams streams;
        final Greeting greeting;
        final Outbox outbox;
        private final byte[] firstName = new byte[Reader.NAME];
        int state;
        private int reason;
        private boolean named;
        private boolean validated;
        private int came;
        private int gone;
        private int quietSince;
        private boolean elicitedSince;
        private final long[] told = new long[17];
        private boolean known;
        private int endsAt;
        private int closingCame;

        Side(int index, Seals seals, Reader reader) {
            int[] parameters = {0, 30000, 0, 0, 65536, 16384, 16384, 16384, 16, 8};
            Book ownBook = new Book();
            Streams ownStreams = new Streams(index, parameters);
            Greeting ownGreeting = new Greeting(seals);
            this.index = index;
            this.seals = seals;
            this.reader = reader;
            set = parameters;
            book = ownBook;
            streams = ownStreams;
            greeting = ownGreeting;
            outbox = new Outbox(seals, ownBook, ownStreams, ownGreeting);
        }

        int seen(int what) {
            switch (what) {
                case 0: return state;
                case 1: return reason;
                case 2: return book.confirmed ? 1 : 0;
                case 3: return validated ? 1 : 0;
                case 4: return greeting.waits;
                case 5: return greeting.level;
                case 6: return came;
                case 7: return gone;
                case 8: return book.spaces[0].probes + book.spaces[1].probes + book.spaces[2].probes;
                default: return outbox.cargoCount;
            }
        }

        private boolean isLive() {
            return state == GREETING || state == OPEN;
        }

        void ask() {
            System.arraycopy(greeting.random, Reader.NAME, firstName, 0, Reader.NAME);
            System.arraycopy(firstName, 0, outbox.to, 0, Reader.NAME);
            greeting.makeFirst(firstName, 0);
            startGreeting();
            book.anxious = true;
            quietSince = book.time;
            greeting.say(0, Greeting.HELLO, greeting.own, 0, 32 + greeting.ownSize);
            greeting.waits = Greeting.ANSWER;
            arm();
        }

        private void startGreeting() {
            state = GREETING;
            greeting.level = 0;
            System.arraycopy(greeting.random, 0, greeting.own, 0, 32);
            greeting.ownSize = putParameters(32) - 32;
        }

        /** Writes the own parameters from a place on, behind the random bytes: the place behind them. */
        private int putParameters(int from) {
            int next = from;
            if (index == 1) {
                next = putName(next, 0, firstName);
            }
            next = set[1] == 0 ? next : putParameter(next, 1, set[1]);
            next = putParameter(next, 3, Outbox.MOST);
            for (int id = 4; id < 10; id++) {
                next = set[id] == 0 ? next : putParameter(next, id, set[id]);
            }
            next = putParameter(next, 10, 0);
            next = putParameter(next, 14, 2);
            return putName(next, 15, greeting.random);
        }

        private int putParameter(int from, int id, int value) {
            greeting.own[from] = (byte) id;
            greeting.own[from + 1] = (byte) Reader.sizeOf(value);
            return Reader.putNumber(greeting.own, from + 2, value);
        }

        private int putName(int from, int id, byte[] name) {
            greeting.own[from] = (byte) id;
            greeting.own[from + 1] = Reader.NAME;
            System.arraycopy(name, 0, greeting.own, from + 2, Reader.NAME);
            return from + 2 + Reader.NAME;
        }

        /** Guards for every space of which the secrets are there. */
        private void arm() {
            for (int s = 0; s < 3; s++) {
                Space space = book.spaces[s];
                boolean can = greeting.level >= s && (s < 2 || greeting.done && state == OPEN);
                if (can && !space.armed && !space.discarded) {
                    seals.arm(space.sealing, greeting.secrets[2 * s + index]);
                    seals.arm(space.opening, greeting.secrets[2 * s + 1 - index]);
                    space.armed = true;
                }
            }
        }

        private int closingTicks() {
            return 3 * book.patience(true);
        }

        private void closeWith(int code) {
            if (isLive()) {
                startClosing(code, Reader.CLOSE, code);
            }
        }

        boolean closeByApplication(int code) {
            if (!isLive()) {
                return false;
            }
            startClosing(30000 + code, Reader.CLOSE_BY_APPLICATION, code);
            return true;
        }

        private void startClosing(int why, int kind, int code) {
            state = CLOSING;
            reason = why;
            endsAt = book.time + closingTicks();
            outbox.closeDue = true;
            outbox.closeKind = kind;
            outbox.closeCode = code;
        }

        void receive(byte[] bytes, int size) {
            if (state >= DRAINING || state == IDLE && index == 0) {
                return;
            }
            came += size;
            if (state == CLOSING) {
                closingCame++;
                outbox.closeDue |= (closingCame & closingCame - 1) == 0;
                return;
            }
            int at = 0;
            int firstTo = 0;
            int firstToSize = 0;
            for (int i = 0; i < size && at < size && state <= OPEN; i++) {
                if (!reader.head(bytes, at, size)) {
                    return;
                }
                if (i == 0) {
                    firstTo = reader.toAt;
                    firstToSize = reader.toSize;
                }
                if (reader.toSize != firstToSize || !isSame(bytes, firstTo, bytes, reader.toAt, firstToSize)) {
                    return;
                }
                int next = reader.next;
                int s = reader.packet == Reader.SHORT ? 2 : reader.packet / 2;
                long number = isMeant(s, size) ? unsealed(s, at) : -1;
                if (number >= 0) {
                    follow(s);
                    arm();
                    work(s, number, bytes[at]);
                }
                at = next;
            }
        }

        private static boolean isSame(byte[] a, int aAt, byte[] b, int bAt, int size) {
            for (int i = 0; i < size; i++) {
                if (a[aAt + i] != b[bAt + i]) {
                    return false;
                }
            }
            return true;
        }

        /** Whether the packet whose header was read is one that this side tries to open. */
        private boolean isMeant(int s, int size) {
            if (reader.toSize != Reader.NAME || s < 2 && reader.bySize != Reader.NAME) {
                return false;
            }
            if (s == 0 && index == 1 && size < Outbox.MOST) {
                return false;
            }
            if (state == IDLE) {
                return s == 0;
            }
            boolean own = isSame(reader.bytes, reader.toAt, greeting.random, 0, Reader.NAME);
            boolean first = index == 1 && s == 0 && isSame(reader.bytes, reader.toAt, firstName, 0, Reader.NAME);
            return (own || first) && book.spaces[s].armed;
        }

        /** Opens a packet that begins at a place, for the reader to read its frames: its number, or -1. */
        private long unsealed(int s, int at) {
            Space space = book.spaces[s];
            byte[] bytes = reader.bytes;
            int place = reader.place;
            if (state == IDLE) {
                greeting.makeFirst(bytes, reader.toAt);
                seals.arm(space.opening, greeting.secrets[0]);
            }
            seals.makeMask(space.opening, bytes, place + 4);
            bytes[at] ^= (byte) (seals.block[0] & (s == 2 ? 31 : 15));
            int numberSize = 1 + (bytes[at] & 3);
            long cut = 0;
            for (int i = 0; i < numberSize; i++) {
                bytes[place + i] ^= seals.block[1 + i];
                cut = cut << 8 | bytes[place + i] & 255;
            }
            long number = grown(cut, numberSize, space.greatestCame());
            int headEnd = place + numberSize;
            if (space.isOld(number) || !seals.unseal(space.opening, bytes, at, headEnd, reader.next, number)) {
                return -1;
            }
            reader.pos = headEnd;
            reader.end = reader.next - Seals.TAG;
            return number;
        }

        /** The number with these lowest bytes that is nearest to the one behind the greatest. */
        private static long grown(long cut, int size, long greatest) {
            long wide = 1L << 8 * size;
            long wanted = greatest + 1;
            long best = -1;
            long number = wanted / wide * wide + cut - wide;
            for (int i = 0; i < 3; i++) {
                boolean nearer = best < 0 || Math.abs(number - wanted) <= Math.abs(best - wanted);
                if (number >= 0 && number <= Reader.MOST_NUMBER && nearer) {
                    best = number;
                }
                number += wide;
            }
            return best;
        }

        /** What follows from a packet that opens, ahead of its frames. */
        private void follow(int s) {
            quietSince = book.time;
            elicitedSince = false;
            if (!named && s < 2) {
                named = true;
                System.arraycopy(reader.bytes, reader.byAt, outbox.to, 0, Reader.NAME);
            }
            if (state == IDLE) {
                System.arraycopy(reader.bytes, reader.toAt, firstName, 0, Reader.NAME);
                startGreeting();
                greeting.waits = Greeting.HELLO;
            }
            if (s == 1 && index == 1) {
                validated = true;
                book.discard(0);
            }
        }

        private void work(int s, long number, int firstByte) {
            if ((firstByte & (s == 2 ? 24 : 12)) != 0 || reader.pos >= reader.end) {
                closeWith(ERROR_PROTOCOL);
                return;
            }
            boolean eliciting = false;
            for (int i = 0; i < Outbox.MOST && reader.pos < reader.end && isLive(); i++) {
                int fault = reader.frame(s);
                int error = fault == 0 ? 0 : fault == Reader.LEVEL ? ERROR_PROTOCOL : ERROR_FRAME;
                if (fault == 0 && reader.kind == Reader.ACK) {
                    boolean right = book.acknowledge(s, reader.b, reader.low, reader.high, reader.ranges);
                    error = right ? 0 : ERROR_PROTOCOL;
                    tellFound();
                } else if (fault == 0) {
                    error = perform(s);
                }
                if (error != 0) {
                    closeWith(error);
                    return;
                }
                eliciting |= reader.kind != Reader.PADDING && reader.kind != Reader.ACK;
                if (reader.kind == Reader.CRYPTO && s < 2) {
                    greet(s);
                    settleGreeting();
                    arm();
                }
            }
            if (isLive() && !book.spaces[s].discarded) {
                book.spaces[s].came(number, eliciting, book.time);
            }
        }

        /** Does the frame that was read, but for an ACK: its error, or 0. */
        private int perform(int s) {
            switch (reader.kind) {
                case Reader.PADDING: case Reader.PING: case Reader.NEW_NAME: case Reader.RESPONSE:
                    return 0;
                case Reader.CRYPTO:
                    return takeCrypto(s);
                case Reader.TOKEN:
                    return index == 1 ? ERROR_PROTOCOL : 0;
                case Reader.DONE:
                    if (index == 1) {
                        return ERROR_PROTOCOL;
                    }
                    confirm();
                    return 0;
                case Reader.RETIRE:
                    return ERROR_PROTOCOL;
                case Reader.CHALLENGE:
                    outbox.responseDue = true;
                    outbox.response = reader.a;
                    return 0;
                case Reader.CLOSE: case Reader.CLOSE_BY_APPLICATION:
                    state = DRAINING;
                    endsAt = book.time + closingTicks();
                    reason = (reader.kind == Reader.CLOSE ? 10000 : 20000) + (int) Math.min(reader.a, 9999);
                    return 0;
                case Reader.RESET: case Reader.STOP: case Reader.STREAM:
                case Reader.MAX_STREAM_DATA: case Reader.STREAM_DATA_BLOCKED:
                    return streams.take(reader);
                default:
                    streams.takeOfAll(reader);
                    return 0;
            }
        }

        private int takeCrypto(int s) {
            if (s == 2) {
                return reader.b > 0 || reader.dataSize > 0 ? Greeting.UNEXPECTED : 0;
            }
            if (reader.b + reader.dataSize > MOST_CRYPTO) {
                return ERROR_CRYPTO;
            }
            greeting.comes[s].put(reader.bytes, reader.dataAt, reader.dataSize, (int) reader.b, true);
            return 0;
        }

        /** Takes the messages of the greeting that are there at a level. */
        private void greet(int s) {
            int type = greeting.next(s);
            for (int i = 0; i < MOST_CRYPTO && type != 0; i++) {
                switch (type) {
                    case Greeting.HELLO:
                        greeting.accept(type);
                        greeting.say(0, Greeting.ANSWER, greeting.random, 0, 32);
                        greeting.makeGreet();
                        greeting.say(1, Greeting.PARAMETERS, greeting.own, 32, greeting.ownSize);
                        greeting.makeProof(1);
                        greeting.say(1, Greeting.DONE, greeting.proof, 0, 32);
                        greeting.makeTalk();
                        greeting.waits = Greeting.DONE;
                        break;
                    case Greeting.ANSWER:
                        greeting.accept(type);
                        greeting.makeGreet();
                        greeting.waits = Greeting.PARAMETERS;
                        break;
                    case Greeting.PARAMETERS:
                        greeting.accept(type);
                        greeting.waits = Greeting.DONE;
                        break;
                    default:
                        greeting.makeProof(1 - index);
                        if (!greeting.isProved()) {
                            greeting.fail(Greeting.WRONG_PROOF);
                            break;
                        }
                        greeting.accept(type);
                        greeting.waits = 0;
                        if (index == 0) {
                            greeting.makeTalk();
                            greeting.makeProof(0);
                            greeting.say(1, Greeting.DONE, greeting.proof, 0, 32);
                        }
                        greeting.done = true;
                        break;
                }
                type = greeting.next(s);
            }
        }

        /** What follows from the messages: faults, the other side's parameters, and that it is OPEN. */
        private void settleGreeting() {
            if (greeting.fault != 0) {
                closeWith(greeting.fault);
                return;
            }
            if (greeting.peerSize >= 0 && !known) {
                known = readParameters();
                if (!known) {
                    closeWith(ERROR_PARAMETERS);
                    return;
                }
                streams.learnLimits(told);
            }
            if (greeting.done && state == GREETING) {
                state = OPEN;
                if (index == 1) {
                    confirm();
                    outbox.doneDue = true;
                }
            }
        }

        private void confirm() {
            if (!book.confirmed) {
                book.confirmed = true;
                book.anxious = false;
                book.discard(1);
            }
        }

        /** Reads the other side's parameters: whether they are right, and its names the ones known. */
        private boolean readParameters() {
            notes.start(greeting.peer, 0, greeting.peerSize);
            int seen = 0;
            boolean named15 = false;
            boolean named0 = index == 1;
            for (int i = 0; i < greeting.peerSize && notes.pos < notes.end; i++) {
                long id = notes.number();
                notes.data(notes.number());
                if (notes.cut) {
                    return false;
                }
                if (id > 16) {
                    continue;
                }
                int bit = 1 << (int) id;
                if ((seen & bit) != 0 || !isParameterRight((int) id, notes.onlyNumber())) {
                    return false;
                }
                seen |= bit;
                boolean isName = notes.dataSize == Reader.NAME;
                named15 |= id == 15 && isName && isSame(greeting.peer, notes.dataAt, outbox.to, 0, Reader.NAME);
                named0 |= id == 0 && isName && isSame(greeting.peer, notes.dataAt, firstName, 0, Reader.NAME);
            }
            return named15 && named0;
        }

        /** Whether the parameter whose data was read is the other side's to tell, and its data is right. */
        private boolean isParameterRight(int id, long value) {
            int size = notes.dataSize;
            told[id] = value;
            switch (id) {
                case 0: case 16: return index == 0 && size <= 20;
                case 2: return index == 0 && size == 16;
                case 3: return value >= 1200;
                case 8: case 9: return value >= 0 && value <= 1152921504606846976L;
                case 10: return value >= 0 && value <= 20;
                case 11: return value >= 0 && value < 16384;
                case 12: return size == 0;
                case 13: return index == 0 && size >= 41 && size <= 61;
                case 14: return value >= 2;
                case 15: return size <= 20;
                default: return value >= 0;
            }
        }

        private void tellFound() {
            Space space = book.spaces[book.foundIn];
            for (int i = 0; i < book.acknowledgedCount; i++) {
                outbox.become(space, book.acknowledged[i], true);
            }
            for (int i = 0; i < book.lostCount; i++) {
                outbox.become(space, book.lost[i], false);
            }
            book.acknowledgedCount = 0;
            book.lostCount = 0;
        }

        private void probe(int s) {
            Space space = book.spaces[s];
            space.probes = 2;
            int oldest = space.oldest();
            if (oldest >= 0) {
                outbox.become(space, oldest, false);
            }
        }

        private boolean isQuietTooLong() {
            long theirs = known ? told[1] : 0;
            long limit = theirs == 0 || set[1] != 0 && set[1] < theirs ? set[1] : theirs;
            return limit > 0 && book.time - quietSince >= Math.max(limit, closingTicks());
        }

        void turn(Line line) {
            int answer = book.pass();
            if (state == CLOSING || state == DRAINING) {
                state = book.time >= endsAt ? ENDED : state;
            } else if (isLive()) {
                if (answer == 1) {
                    tellFound();
                } else if (answer > 1) {
                    probe(answer - 2);
                }
                if (isQuietTooLong()) {
                    state = ENDED;
                    reason = 40000;
                }
            }
            for (int i = 0; i < MOST_DATAGRAMS && (isLive() || state == CLOSING); i++) {
                if (outbox.isUsedUp()) {
                    state = ENDED;
                    reason = reason == 0 ? 50000 : reason;
                    return;
                }
                int most = index == 0 || validated ? Outbox.MOST : Math.min(3 * came - gone, Outbox.MOST);
                int size = outbox.datagram(most, i == 0, state == CLOSING);
                if (size == 0) {
                    return;
                }
                line.put(outbox.bytes, size, book.time);
                afterDatagram(size);
            }
        }

        private void afterDatagram(int size) {
            gone += size;
            if (index == 0 && outbox.hasPacketOf(1)) {
                book.discard(0);
            }
            if (outbox.elicited && !elicitedSince) {
                elicitedSince = true;
                quietSince = book.time;
            }
            if (state == CLOSING) {
                outbox.closeDue = false;
            }
        }
    }
}
