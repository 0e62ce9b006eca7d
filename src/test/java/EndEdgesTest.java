import java.util.Arrays;

/** Closing, draining, the quiet time, and the limits of what a side sends, at their edges (promises 7, 15, 22, 25). */
public final class EndEdgesTest {
    private static final Check check = new Check();
    private static final Class<IllegalArgumentException> ARGUMENT = IllegalArgumentException.class;

    public static void main(String[] args) throws Exception {
        closeCodes();
        closeStates();
        closingTicks();
        drainingTicks();
        closeOnceMore();
        closeInEachSpace();
        closeThatDoesNotFit();
        whatComesWhenItIsOver();
        quietLimits();
        quietOfSideZeroAlone();
        quietBeginsAnew();
        quietWithProbesDue();
        noQuietWhenIdle();
        sixteenDatagrams();
        manyPackets();
        manyFrames();
        threeTimesWhatCame();
        roomOfSpaceOne();
        pingAndPadding();
        check.end();
    }

    /** A pair in which a side is in a state; side 0 has begun, but for the state 0. */
    static TransportPair inState(int side, int state) {
        if (state < 2) {
            TransportPair x = state == 0 && side == 0 ? Pairs.ready() : Pairs.begun();
            x.tick(1);
            if (state == 1 && side == 1) {
                x.deliver(0, 0);
            }
            return x;
        }
        TransportPair x = Pairs.still();
        if (state == 3) {
            x.close(side, 5);
        } else if (state > 3) {
            Pairs.rawNow(x, 1 - side, 28, 5, 0, 0);
        }
        if (state == 5) {
            x.tick(500);
        }
        Pairs.clear(x);
        check.due("state", x.look(side, 0), state);
        return x;
    }

    /** "or code is not 0 .. 9999". */
    private static void closeCodes() throws Exception {
        Forge forge = new Forge();
        for (int code : new int[] {Integer.MIN_VALUE, -1, 0, 1, 63, 64, 9998, 9999, 10000, Integer.MAX_VALUE}) {
            TransportPair x = Pairs.still();
            if (code < 0 || code > 9999) {
                check.refused("close with " + code, x, ARGUMENT, () -> x.close(0, code) ? 1 : 0);
                TransportPair idle = Pairs.ready();
                check.refused("ahead of the state", idle, ARGUMENT, () -> idle.close(0, code) ? 1 : 0);
                continue;
            }
            check.isTrue("close with " + code, x.close(0, code));
            check.due("its reason", x.look(0, 1), 30000 + code);
            x.tick(1);
            check.isTrue("its CLOSE", Arrays.equals(forge.inside(x, 0, 0), Forge.frame(29, code, 0)));
            Pairs.pass(x, 0);
            check.due("the other one's reason", x.look(1, 1), 20000 + code);
        }
        TransportPair x = Pairs.still();
        for (int side : new int[] {-1, 2}) {
            check.refused("close side " + side, x, ARGUMENT, () -> x.close(side, 0) ? 1 : 0);
        }
    }

    /** "true; false when it is not GREETING or OPEN". */
    private static void closeStates() {
        for (int side = 0; side < 2; side++) {
            for (int state = 0; state < 6; state++) {
                TransportPair x = inState(side, state);
                String before = Pairs.sight(x);
                boolean can = state == 1 || state == 2;
                check.isTrue("close side " + side + " in the state " + state, x.close(side, 7) == can);
                check.isTrue("false changes nothing", can || before.equals(Pairs.sight(x)));
                check.due("state", x.look(side, 0), can ? 3 : state);
                check.due("reason", x.look(side, 1), can ? 30007 : state == 0 ? 0 : state == 3 ? 30005 : 10005);
            }
        }
    }

    /** "if its book's time is so many ticks or more above what it was when that began, it is ENDED". */
    private static void closingTicks() {
        for (int state = 1; state <= 2; state++) {
            TransportPair x = inState(0, state);
            int ticks = 3 * ((int) x.space(0, 0, 8) + 25);
            check.isTrue("3 * 325 while greeting", state == 2 || ticks == 975);
            x.close(0, 1);
            x.tick(ticks - 1);
            check.due("CLOSING", x.look(0, 0), 3);
            x.tick(1);
            check.due("ENDED", x.look(0, 0), 5);
            check.due("its reason stays", x.look(0, 1), 30001);
        }
        TransportPair y = Pairs.still();
        int ticks = 3 * (int) y.space(1, 2, 8);
        Pairs.rawNow(y, 0, 31, 1, 1);
        check.due("closed by a fault", y.look(1, 0) * 100 + y.look(1, 1), 307);
        y.tick(ticks - 1);
        check.due("CLOSING", y.look(1, 0), 3);
        y.tick(1);
        check.due("ENDED", y.look(1, 0) * 100 + y.look(1, 1), 507);
    }

    /** "the side is DRAINING, for 3 * (PATIENCE of space 2, as if confirmed) ticks". */
    private static void drainingTicks() throws Exception {
        TransportPair x = Pairs.still();
        int ticks = 3 * (int) x.space(1, 2, 8);
        Pairs.rawNow(x, 0, 28, 1, 0, 0);
        x.tick(ticks - 1);
        check.due("DRAINING", x.look(1, 0), 4);
        x.tick(1);
        check.due("ENDED", x.look(1, 0) * 100000 + x.look(1, 1), 510001);
        Forge forge = new Forge();
        TransportPair y = Pairs.begun();
        y.tick(1);
        Forge.comes(y, 0, forge.packet(0, 0, 0, 1200, Keys.bytes(28, 1, 0, 0)));
        check.due("DRAINING while greeting", y.look(1, 0), 4);
        y.tick(974);
        check.due("DRAINING still", y.look(1, 0), 4);
        y.tick(1);
        check.due("ENDED", y.look(1, 0), 5);
    }

    /** "with the 1st, 2nd, 4th, 8th, .. such its CLOSE is to be sent once more". */
    private static void closeOnceMore() {
        TransportPair x = Pairs.still();
        x.open(1, true);
        Pairs.write(x, 1, 1, Pairs.row(3, 3));
        x.tick(1);
        x.close(0, 5);
        x.tick(1);
        int sent = x.line(0, 1);
        int came = x.look(0, 6);
        int size = x.at(1, 0, -1);
        for (int i = 1; i <= 65; i++) {
            int last = x.twice(1, 0) - 1;
            x.alter(1, last, 20, i);
            x.deliver(1, last);
            x.tick(1);
            sent += Integer.bitCount(i) == 1 ? 1 : 0;
            check.due("with the " + i + "th", x.line(0, 1), sent);
            check.due("CAME", x.look(0, 6), came + i * size);
        }
        check.due("nothing else is done", x.stream(0, 1, 8), -1);
        TransportPair y = Pairs.still();
        y.open(1, true);
        Pairs.write(y, 1, 1, Pairs.row(3, 3));
        y.tick(1);
        y.close(0, 5);
        int before = y.line(0, 1);
        for (int i = 1; i <= 4; i++) {
            y.twice(1, 0);
            y.deliver(1, 0);
        }
        y.tick(1);
        check.due("one for all of them", y.line(0, 1), before + 1);
    }

    /** "in the spaces 0 and 1 one of kind 29 becomes 28 with the code 12". */
    private static void closeInEachSpace() throws Exception {
        Forge forge = new Forge();
        byte[] hidden = Keys.bytes(28, 12, 0, 0);
        TransportPair x = Pairs.begun();
        x.tick(1);
        x.deliver(0, 0);
        x.tick(1);
        x.deliver(1, 0);
        x.close(0, 77);
        x.tick(1);
        check.due("one datagram", x.line(0, 0), 1);
        check.due("three packets", x.at(0, 0, -1), 48 + 47 + 9 + 2 + 4 + 16);
        check.isTrue("in space 0", Arrays.equals(forge.insideLong(x, 0, 0, 0, 0), hidden));
        check.isTrue("in space 1", Arrays.equals(forge.insideLong(x, 0, 0, 48, 1), hidden));
        check.isTrue("in space 2", Arrays.equals(forge.inside(x, 0, 0, 95), Forge.frame(29, 77, 0)));
        check.due("space 0 is discarded", x.space(0, 0, 9), 1);
        check.due("it is not eliciting, nor counted", x.book(0, 1), 0);
        x.tick(1);
        check.due("once", x.line(0, 0), 1);
        TransportPair y = Pairs.begun();
        y.tick(1);
        Forge.comes(y, 0, forge.packet(0, 0, 0, 1200, Forge.crypto(0, Keys.bytes(9))));
        y.tick(1);
        check.isTrue("one of kind 28 stays", Arrays.equals(forge.insideLong(y, 1, 0, 0, 0), Forge.frame(28, 266, 0, 0)));
        check.due("in space 0 alone", y.at(1, 0, -1), 49);
    }

    /** Side 1 has sent all that it may; side 0 is OPEN, and nothing of it is on way 0. */
    private static TransportPair spent() {
        TransportPair x = Pairs.begun();
        x.tick(1);
        x.deliver(0, 0);
        x.tick(1);
        x.deliver(1, 0);
        check.due("side 0 is OPEN", x.look(0, 0), 2);
        x.tick(400);
        check.due("three times what came", x.look(1, 7), 3600);
        Pairs.clear(x);
        x.tick(1000);
        Pairs.clear(x);
        check.due("no more", x.look(1, 7), 3600);
        return x;
    }

    /** A datagram of so many bytes comes to side 1, which does not open there. */
    private static void comesOf(TransportPair x, int size) {
        Pairs.tape(x, new byte[size - 27]);
        x.raw(0);
        x.tick(1);
        int found = -1;
        for (int k = 0; k < x.line(0, 0); k++) {
            found = x.at(0, k, -1) == size ? k : found;
        }
        check.isTrue("one of " + size, found >= 0);
        Pairs.clear(x);
        check.due("none", x.line(0, 0), 0);
        Pairs.tape(x, new byte[size - 27]);
        x.raw(0);
        x.tick(1);
        x.deliver(0, 0);
        Pairs.clear(x);
    }

    /** "the CLOSE alone, if it is to be sent and fits". */
    private static void closeThatDoesNotFit() {
        int[][] rows = {{29, 48}, {31, 48}, {32, 48}, {33, 95}, {34, 95}};
        for (int[] row : rows) {
            TransportPair x = spent();
            x.close(1, 5);
            x.tick(3);
            check.due("no room for it", x.look(1, 7), 3600);
            comesOf(x, row[0]);
            x.tick(1);
            check.due("room of 3 * " + row[0], x.look(1, 7), 3600 + row[1]);
        }
    }

    /** "A datagram comes to a side, but not .. to one that is DRAINING or ENDED (it is lost there)." */
    private static void whatComesWhenItIsOver() {
        for (int state = 2; state < 6; state++) {
            TransportPair x = inState(1, state);
            if (state > 3) {
                check.due("side 0 is OPEN still", x.look(0, 0), 2);
            }
            Pairs.tape(x, 1, 1);
            x.raw(0);
            x.tick(1);
            Pairs.clear(x);
            Pairs.tape(x, 1, 1);
            x.raw(0);
            x.tick(1);
            int came = x.look(1, 6);
            int size = x.deliver(0, 0);
            check.due("it has left the line", x.line(0, 0), 0);
            check.due("CAME in the state " + state, x.look(1, 6) - came, state < 4 ? size : 0);
            check.due("pending", x.space(1, 2, 7), state == 2 ? 1 : 0);
            int sent = x.line(1, 1);
            x.tick(30);
            boolean sends = state < 4;
            check.due("it sends, or not", x.line(1, 1) > sent ? 1 : 0, sends ? 1 : 0);
        }
        TransportPair y = inState(1, 5);
        int time = y.book(1, 0);
        y.tick(7);
        check.due("its book ticks", y.book(1, 0), time + 7);
        check.isTrue("it opens no more, but its streams do", y.open(1, true) == 1);
    }

    /** "The limit is the lesser one of both sides' parameters 1 that are not 0 .., but at least 3 * (PATIENCE ..)". */
    private static void quietLimits() {
        int[][] rows = {{100, 0, 100}, {0, 100, 100}, {100, 101, 100}, {101, 100, 100}, {100, 100, 100}, {0, 0, 0}, {1, 200, 1},
            {200000, 150, 150}, {150, 200000, 150}};
        for (int[] row : rows) {
            for (int side = 0; side < 2; side++) {
                TransportPair x = Pairs.still(Pairs.with(0, 1, row[0], 1, 1, row[1]));
                Pairs.rawNow(x, 1 - side, 1, 1);
                Pairs.clear(x);
                check.due("OPEN", x.look(side, 0), 2);
                int limit = Math.max(row[2], 3 * (int) x.space(side, 2, 8));
                if (row[2] == 0) {
                    x.tick(1000);
                    check.due("no limit", x.look(side, 0), 2);
                    continue;
                }
                String what = "limits " + row[0] + ", " + row[1] + ": " + limit;
                x.tick(limit - 1);
                check.due(what + ", one tick less", x.look(side, 0) * 100000 + x.look(side, 1), 200000);
                x.tick(1);
                check.due(what, x.look(side, 0) * 100000 + x.look(side, 1), 540000);
            }
        }
    }

    /** "(the other one's when known)"; "side 0's with begin()". */
    private static void quietOfSideZeroAlone() {
        TransportPair x = Pairs.with(0, 1, 0, 1, 1, 1);
        x.begin();
        for (int i = 0; i < 5; i++) {
            x.tick(1000);
        }
        check.due("it does not know of a limit", x.look(0, 0), 1);
        TransportPair y = Pairs.with(0, 1, 2000, 1, 1, 1000);
        y.begin();
        y.tick(1000);
        y.tick(1000);
        check.due("its own, 2000 ticks from the first packet on: one less", y.look(0, 0), 1);
        y.tick(1);
        check.due("2000", y.look(0, 0) * 100000 + y.look(0, 1), 540000);
        TransportPair late = Pairs.with(0, 1, 1);
        late.tick(1000);
        late.begin();
        late.tick(1);
        check.due("begun late: the time ahead of it does not count", late.look(0, 0), 1);
        late.tick(974);
        check.due("3 * 325 ticks behind the first packet, one less", late.look(0, 0), 1);
        late.tick(1);
        check.due("then", late.look(0, 1), 40000);
        TransportPair z = Pairs.with(0, 1, 2000, 1, 1, 1000);
        z.begin();
        z.tick(1);
        z.deliver(0, 0);
        check.due("side 1 greets at 1", z.look(1, 0), 1);
        z.tick(1);
        z.tick(999);
        check.due("both are known to it; it has sent at 2", z.look(1, 0), 1);
        z.tick(1);
        check.due("1000 behind that", z.look(1, 0) * 100000 + z.look(1, 1), 540000);
    }

    /** "if it is the first one since a packet opened (or the beginning), the QUIET time begins anew". */
    private static void quietBeginsAnew() {
        TransportPair x = Pairs.still(Pairs.with(0, 1, 400, 1, 1, 0));
        Pairs.rawNow(x, 1, 1, 1);
        x.tick(300);
        Pairs.tape(x, 1, 1);
        x.raw(0);
        x.tick(1);
        int first = x.book(0, 0);
        x.tick(50);
        Pairs.tape(x, 1, 1);
        x.raw(0);
        x.tick(1);
        Pairs.clear(x);
        x.tick(first + 399 - x.book(0, 0));
        check.due("399 behind the first", x.look(0, 0), 2);
        x.tick(1);
        check.due("400 behind the first, whatever went later", x.look(0, 1), 40000);
        TransportPair y = Pairs.still(Pairs.with(0, 1, 400, 1, 1, 0));
        Pairs.rawNow(y, 1, 1, 1);
        int opened = y.book(0, 0);
        Pairs.clear(y);
        y.tick(30);
        check.due("an ACK alone went", y.line(0, 0), 1);
        y.tick(opened + 399 - y.book(0, 0));
        check.due("399 behind what opened", y.look(0, 0), 2);
        y.tick(1);
        check.due("an ACK alone does not count", y.look(0, 1), 40000);
        TransportPair z = Pairs.still(Pairs.with(0, 1, 400, 1, 1, 0));
        z.tick(100);
        Pairs.tape(z, 1, 1);
        z.raw(1);
        z.tick(1);
        z.alter(1, 0, 20, 1);
        z.deliver(1, 0);
        int spoiled = z.book(0, 0);
        z.tick(390);
        check.due("what does not open does not count", z.look(0, 0) == 5 || z.book(0, 0) < spoiled + 400 ? 1 : 0, 1);
        check.due("ended", z.look(0, 1), 40000);
    }

    /** A probe time and the quiet limit in the same tick: probes are due, but it is ENDED, and none is sent. */
    private static void quietWithProbesDue() {
        int patience = (int) Pairs.still().space(0, 2, 8);
        for (int more = -1; more <= 1; more++) {
            TransportPair x = Pairs.still(Pairs.with(0, 1, 7 * patience + more, 1, 1, 0));
            Pairs.tape(x, 1, 1);
            x.raw(0);
            x.tick(1);
            x.tick(7 * patience - 1);
            int sent = x.line(0, 1);
            x.tick(1);
            check.due("ENDED, or not yet", x.look(0, 0), more > 0 ? 2 : 5);
            check.due("probes due", x.look(0, 8), more == 0 ? 2 : 0);
            check.due("sent", x.line(0, 1) - sent, more > 0 ? 2 : 0);
        }
    }

    /** "side 1's with its first packet that opens". */
    private static void noQuietWhenIdle() {
        TransportPair x = Pairs.with(0, 1, 0, 1, 1, 1000);
        x.begin();
        x.tick(1);
        for (int i = 0; i < 5; i++) {
            x.tick(1000);
        }
        check.due("side 1 is IDLE still", x.look(1, 0), 0);
        x.alter(0, 0, 1000, 1);
        x.deliver(0, 0);
        check.due("by what does not open, too", x.look(1, 0), 0);
        x.deliver(0, 0);
        check.due("GREETING", x.look(1, 0), 1);
        x.tick(1);
        x.tick(999);
        check.due("999 behind its first eliciting one", x.look(1, 0), 1);
        x.tick(1);
        check.due("1000", x.look(1, 1), 40000);
    }

    /** "it sends datagrams, at most 16, until one would have no packet". */
    private static void sixteenDatagrams() {
        TransportPair x = Pairs.still(Pairs.with(1, 6, 65536));
        long first = x.space(0, 2, 0);
        for (int i = 0; i < 22; i++) {
            Pairs.tape(x, new byte[1000]);
            x.raw(0);
            x.tick(1);
            Pairs.clear(x);
        }
        Pairs.rawNow(x, 1, Forge.frame(2, first + 21, 0, 0, 21));
        check.isTrue("WINDOW", x.book(0, 2) > 21000);
        Pairs.clear(x);
        x.open(0, true);
        Pairs.write(x, 0, 0, Pairs.row(20000, 0));
        x.tick(1);
        check.due("16 in a tick", x.line(0, 0), 16);
        int sent = (int) x.stream(0, 0, 2);
        check.isTrue("not all", sent < 20000);
        x.tick(1);
        check.due("the others in the next", x.line(0, 0), 16 + (20000 - sent + 1160) / 1166);
        check.due("all", x.stream(0, 0, 2), 20000);
        TransportPair y = Pairs.still();
        y.open(0, true);
        int[][] rows = {{1167 + 1165, 2}, {2 * 1165, 2}, {2 * 1165 + 1, 3}};
        for (int[] row : rows) {
            Pairs.clear(y);
            Pairs.write(y, 0, 0, Pairs.row(row[0], 0));
            y.tick(1);
            check.due("until one would have no packet", y.line(0, 0), row[1]);
            check.due("all is sent", y.stream(0, 0, 2), y.stream(0, 0, 1));
        }
    }

    /** "if in one of the spaces in which it has guards 4096 packets were sent .. ENDED, with the REASON 50000 if it has none yet". */
    private static void manyPackets() {
        TransportPair x = Pairs.open(1);
        x.open(0, true);
        for (int i = 0; x.space(0, 2, 0) < 4094; i++) {
            Pairs.write(x, 0, 0, Pairs.row(1, i));
            x.tick(1);
        }
        check.due("4094", x.look(0, 0), 2);
        Pairs.write(x, 0, 0, Pairs.row(1, 0));
        x.tick(1);
        check.due("4095", x.look(0, 0) * 10000 + x.space(0, 2, 0), 24095);
        x.tick(1);
        check.due("4095 still", x.look(0, 0), 2);
        x.close(0, 3);
        x.tick(1);
        check.due("the CLOSE is the last one", x.space(0, 2, 0), 4096);
        check.due("ENDED, with the reason that it has", x.look(0, 0) * 100000 + x.look(0, 1), 530003);
        TransportPair y = Pairs.open(1);
        y.open(0, true);
        for (int i = 0; y.space(0, 2, 0) < 4094; i++) {
            Pairs.write(y, 0, 0, Pairs.row(1, i));
            y.tick(1);
        }
        Pairs.write(y, 0, 0, Pairs.row(5000, 0));
        y.tick(1);
        check.due("two more, and no third", y.space(0, 2, 0), 4096);
        check.due("ENDED", y.look(0, 0) * 100000 + y.look(0, 1), 550000);
    }

    /** "or its cargo has 15000 frames or more". */
    private static void manyFrames() {
        TransportPair x = Pairs.still(Pairs.with(1, 8, 64, 1, 9, 64));
        for (int i = 0; i < 64; i++) {
            x.open(0, true);
            x.open(0, false);
        }
        for (int id = 4; id < 256; id += 2) {
            x.reset(0, id, 1 << 30);
        }
        for (int i = 0; i < 400 && x.look(0, 9) < 14800; i++) {
            long n = x.space(0, 2, 0);
            Pairs.tape(x, 1, 1);
            x.raw(0);
            Pairs.tape(x, Forge.frame(2, n, 0, 0, 0));
            x.raw(1);
            x.tick(1);
            x.deliver(1, 0);
            Pairs.clear(x);
        }
        check.isTrue("many frames", x.look(0, 9) >= 14800);
        x.tick(1);
        Pairs.rawNow(x, 1, Forge.frame(2, x.space(0, 2, 0) - 1, 0, 0, 300));
        Pairs.clear(x);
        for (int i = 0; x.look(0, 9) < 14999 && i < 400; i++) {
            Pairs.write(x, 0, 0, Pairs.row(1, i));
            x.tick(1);
            Pairs.rawNow(x, 1, Forge.frame(2, x.space(0, 2, 0) - 1, 0, 0, 0));
            Pairs.clear(x);
        }
        check.due("14999", x.look(0, 9), 14999);
        check.due("OPEN", x.look(0, 0), 2);
        Pairs.rawNow(x, 1, 1, 1);
        x.tick(1);
        check.due("OPEN still", x.look(0, 0), 2);
        Pairs.write(x, 0, 0, Pairs.row(1, 1));
        x.tick(1);
        check.due("15000", x.look(0, 9), 15000);
        check.due("ENDED", x.look(0, 0) * 100000 + x.look(0, 1), 550000);
    }

    /**
     * Side 1 has sent all that it may but for some bytes, and probes are due in both spaces: a datagram of so many bytes
     * came, which space 1 used, then space 0 was next.
     */
    private static TransportPair spentInBoth(int size) {
        TransportPair x = spent();
        check.due("probes are due in space 1", x.look(1, 8), 2);
        comesOf(x, size);
        x.tick(1);
        check.due("one went", x.look(1, 8), 1);
        for (int i = 0; i < 30 && x.look(1, 8) < 3; i++) {
            x.tick(500);
            Pairs.clear(x);
        }
        check.due("two more are due in space 0", x.look(1, 8), 3);
        return x;
    }

    /** "for side 1 that is not validated at most 3 * CAME less what it has sent". */
    private static void threeTimesWhatCame() {
        for (int size = 40; size <= 60; size += 5) {
            TransportPair x = spentInBoth(29);
            int left = 3 * x.look(1, 6) - x.look(1, 7);
            check.isTrue("too little for a packet", left < 49);
            comesOf(x, size);
            x.tick(1);
            check.due("three times what came", x.look(1, 7), 3 * x.look(1, 6));
            check.due("PADDING makes it so many", x.at(1, 0, -1), left + 3 * size);
            check.due("one datagram", x.line(1, 0), 1);
            x.tick(1);
            check.due("no more", x.line(1, 0), 1);
        }
        TransportPair x = spent();
        int before = x.look(1, 7);
        for (int k = 0; k < 2000 && x.line(0, 0) == 0; k++) {
            x.tick(1);
        }
        x.deliver(0, 0);
        check.due("validated by a packet of space 1", x.look(1, 3), 1);
        check.due("and OPEN", x.look(1, 0), 2);
        x.open(1, true);
        Pairs.write(x, 1, 1, Pairs.row(6000, 0));
        x.tick(1);
        check.isTrue("then there is no such limit", x.look(1, 7) > before + 6000);
    }

    /** "a packet's ROOM is MOST less all that the packets before take, its header .., 4 and 16; with less than 4 there is none". */
    private static void roomOfSpaceOne() throws Exception {
        Forge forge = new Forge();
        int first = 26 + 2 + 39 + 16;
        for (int size = 42; size <= 46; size++) {
            for (int used : new int[] {29, 50}) {
                TransportPair x = spentInBoth(used);
                int taken = used == 29 ? 38 : 101;
                int most = 3 * x.look(1, 6) - x.look(1, 7) + 3 * size;
                comesOf(x, size);
                Pairs.clear(x);
                long before = x.space(1, 1, 0);
                x.tick(1);
                int room = most - first - 25 - 4 - 16;
                check.due("size", x.at(1, 0, -1), most);
                byte[] inside = forge.insideLong(x, 1, 0, 0, 0);
                check.isTrue("ANSWER", Arrays.equals(Arrays.copyOf(inside, 39), Forge.crypto(0, forge.answer)));
                check.due("a packet of space 1 in a room of " + room, x.space(1, 1, 0) - before, room < 4 ? 0 : 1);
                if (room < 4) {
                    check.due("PADDING behind the first", inside.length, most - 26 - 2 - 16);
                    continue;
                }
                check.due("no PADDING behind the first", inside.length, 39);
                byte[] second = forge.insideLong(x, 1, 0, first, 1);
                int fits = room - 3 - (taken < 64 ? 1 : 2);
                byte[] piece = fits < 1 ? Keys.NONE : Arrays.copyOfRange(forge.granted, taken, Math.min(taken + fits, forge.granted.length));
                byte[] want = fits < 1 ? Keys.bytes(1) : Forge.crypto(taken, piece);
                check.isTrue("what fits beside 1 byte, the offset's, and 2: " + fits, Arrays.equals(Arrays.copyOf(second, want.length), want));
                for (int i = want.length; i < second.length; i++) {
                    check.due("PADDING", second[i], 0);
                }
            }
        }
    }

    /** "If number and frames have fewer than 4 bytes, PADDING makes them 4"; "if none of these is there and probes are due: PING". */
    private static void pingAndPadding() throws Exception {
        Forge forge = new Forge();
        TransportPair x = Pairs.still();
        Pairs.tape(x, 1);
        x.raw(0);
        x.tick(1);
        check.isTrue("one byte, and PADDING", Arrays.equals(forge.inside(x, 0, 0), Keys.bytes(1, 0)));
        Pairs.clear(x);
        x.tick((int) x.space(0, 2, 3) - x.book(0, 0));
        check.due("two probes", x.line(0, 0), 2);
        for (int k = 0; k < 2; k++) {
            check.isTrue("PING, and PADDING", Arrays.equals(forge.inside(x, 0, k), Keys.bytes(1, 0)));
        }
        TransportPair y = Pairs.still();
        Pairs.tape(y, 1, 1);
        y.raw(0);
        y.tick(1);
        Pairs.clear(y);
        y.tick((int) y.space(0, 2, 3) - y.book(0, 0) - 1);
        Pairs.tape(y, 1, 1);
        y.raw(1);
        y.tick(1);
        check.due("both went", y.line(0, 0), 2);
        TransportPair z = Pairs.still();
        Pairs.tape(z, 1, 1);
        z.raw(0);
        z.tick(1);
        Pairs.clear(z);
        z.tick((int) z.space(0, 2, 3) - z.book(0, 0) - 2);
        Pairs.rawNow(z, 1, 1, 1);
        Pairs.clear(z);
        z.tick(1);
        byte[] got = forge.inside(z, 0, 0);
        check.due("an ACK that waits goes with the PING", got.length, 6);
        check.due("PING", got[5], 1);
        check.isTrue("the second one is a PING alone", Arrays.equals(forge.inside(z, 0, 1), Keys.bytes(1, 0)));
    }
}
