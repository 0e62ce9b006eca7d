/** Promises 25 to 29: look, book, space, stream, streams; and what the book and the streams do. */
public final class SightTest {
    private static final Check check = new Check();
    private static final Class<IllegalArgumentException> ARGUMENT = IllegalArgumentException.class;

    public static void main(String[] args) {
        wrongs();
        look();
        samples();
        window();
        losses();
        probes();
        silence();
        acknowledgements();
        ranges();
        stream();
        streams();
        lostFrames();
        amplification();
        manyPackets();
        quiet();
        check.end();
    }

    private static void wrongs() {
        TransportPair x = Pairs.begun();
        check.refused("look(2, 0)", x, ARGUMENT, () -> x.look(2, 0));
        check.refused("look(0, 10)", x, ARGUMENT, () -> x.look(0, 10));
        check.refused("look(0, -1)", x, ARGUMENT, () -> x.look(0, -1));
        check.refused("book(-1, 0)", x, ARGUMENT, () -> x.book(-1, 0));
        check.refused("book(0, 11)", x, ARGUMENT, () -> x.book(0, 11));
        check.refused("book(0, -1)", x, ARGUMENT, () -> x.book(0, -1));
        check.refused("space(2, 0, 0)", x, ARGUMENT, () -> x.space(2, 0, 0));
        check.refused("space(0, 3, 0)", x, ARGUMENT, () -> x.space(0, 3, 0));
        check.refused("space(0, -1, 0)", x, ARGUMENT, () -> x.space(0, -1, 0));
        check.refused("space(0, 0, 12)", x, ARGUMENT, () -> x.space(0, 0, 12));
        check.refused("space(0, 0, -1)", x, ARGUMENT, () -> x.space(0, 0, -1));
        check.refused("stream(2, 0, 0)", x, ARGUMENT, () -> x.stream(2, 0, 0));
        check.refused("stream(0, 0, 15)", x, ARGUMENT, () -> x.stream(0, 0, 15));
        check.refused("stream(0, 0, -1)", x, ARGUMENT, () -> x.stream(0, 0, -1));
        check.refused("streams(2, 0)", x, ARGUMENT, () -> x.streams(2, 0));
        check.refused("streams(0, 14)", x, ARGUMENT, () -> x.streams(0, 14));
        check.refused("streams(0, -1)", x, ARGUMENT, () -> x.streams(0, -1));
    }

    private static void row(String what, long[] want, java.util.function.IntToLongFunction got) {
        for (int i = 0; i < want.length; i++) {
            check.due(what + " " + i, got.applyAsLong(i), want[i]);
        }
    }

    private static void look() {
        TransportPair x = Pairs.begun();
        x.tick(1);
        row("side 0 greets", new long[] {1, 0, 0, 0, 2, 0, 0, 1200, 0, 1}, w -> x.look(0, w));
        x.deliver(0, 0);
        row("side 1 greets", new long[] {1, 0, 0, 0, 20, 2, 1200, 0, 0, 0}, w -> x.look(1, w));
        x.tick(1);
        row("side 1 has answered", new long[] {1, 0, 0, 0, 20, 2, 1200, 1200, 0, 2}, w -> x.look(1, w));
        x.deliver(1, 0);
        row("side 0 is open", new long[] {2, 0, 0, 0, 0, 2, 1200, 1200, 0, 1}, w -> x.look(0, w));
        x.tick(1);
        row("side 0 has sent DONE", new long[] {2, 0, 0, 0, 0, 2, 1200, 1336, 0, 2}, w -> x.look(0, w));
        x.deliver(0, 0);
        row("side 1 is open", new long[] {2, 0, 1, 1, 0, 2, 1336, 1200, 0, 2}, w -> x.look(1, w));
        x.tick(1);
        x.deliver(1, 0);
        row("side 0 is confirmed", new long[] {2, 0, 1, 0, 0, 2, 1229, 1336, 0, 2}, w -> x.look(0, w));
        row("space 0 of it", new long[] {2, 0, -1, -1, 0, 0, 0, 0, x.space(0, 0, 8), 1, 0, 0}, w -> x.space(0, 0, w));
        row("space 2 of it", new long[] {0, -1, -1, -1, 0, 0, 1, 1, x.space(0, 0, 8) + 25, 0, 0, 1}, w -> x.space(0, 2, w));
    }

    /** The first sample of 9; in flight is then DONE in space 1. Then samples with a delay. */
    private static void samples() {
        TransportPair x = Pairs.begun();
        x.flow(5);
        x.tick(11);
        row("first sample", new long[] {11, 87, 12000, -1, -1, 72, 18, 9, 9, 0, 10}, w -> x.book(0, w));
        TransportPair y = Pairs.open(5);
        int smooth = y.book(0, 5);
        int vary = y.book(0, 6);
        y.open(0, true);
        Pairs.write(y, 0, 0, Pairs.row(1, 1));
        y.tick(60);
        int r = y.book(0, 7);
        check.due("the sample: both ways, and 24 ticks till the ACK", r, 33);
        check.due("LEAST", y.book(0, 8), 9);
        check.due("less than LEAST + delay: r counts whole in VARY", y.book(0, 6), vary + 33 - smooth / 8 - vary / 4);
        check.due("and in SMOOTH", y.book(0, 5), smooth + 33 - smooth / 8);
        check.due("LIMIT", y.book(0, 10), 9 * r / 8);
        smooth = y.book(0, 5);
        vary = y.book(0, 6);
        Pairs.write(y, 0, 0, Pairs.row(1, 1));
        y.tick(7);
        y.flow(9);
        y.tick(60);
        check.due("a sample with a longer way back", y.book(0, 7), 37);
        check.due("the delay of 25 is taken off in VARY", y.book(0, 6), vary + Math.abs(smooth / 8 - 12) - vary / 4);
        check.due("and in SMOOTH", y.book(0, 5), smooth + 12 - smooth / 8);
        TransportPair z = Pairs.open(3);
        z.flow(0);
        check.due("an ACK alone is out", z.space(0, 2, 4), 1);
        String before = z.book(0, 5) + " " + z.book(0, 6) + " " + z.book(0, 7);
        Pairs.rawNow(z, 1, 2, 0, 0, 0, 0);
        check.due("acknowledged by raw bytes", z.space(0, 2, 4), 0);
        check.isTrue("no sample without an eliciting one", before.equals(z.book(0, 5) + " " + z.book(0, 6) + " " + z.book(0, 7)));
    }

    private static void window() {
        TransportPair x = Pairs.open(5);
        int before = x.book(0, 2);
        x.open(0, true);
        Pairs.write(x, 0, 0, Pairs.row(16384, 1));
        x.tick(1);
        int sent = x.book(0, 1);
        check.isTrue("a whole window", sent >= before);
        x.tick(11);
        int grown = x.book(0, 2);
        check.isTrue("it grew by what filled it", grown > before && grown - before <= 3 * 1200);
        check.due("no threshold", x.book(0, 3), -1);
        check.due("no recovery", x.book(0, 4), -1);
    }

    private static void losses() {
        TransportPair x = Pairs.open(1);
        x.flow(0);
        x.open(0, true);
        int first = (int) x.space(0, 2, 0);
        long outBefore = x.space(0, 2, 4);
        int[] size = new int[5];
        for (int i = 0; i < 5; i++) {
            Pairs.write(x, 0, 0, Pairs.row(10 + i, i));
            x.tick(1);
            size[i] = x.at(0, i, -1);
        }
        check.due("out", x.space(0, 2, 4), outBefore + 5);
        check.due("eliciting", x.space(0, 2, 5), 5);
        check.due("in flight", x.book(0, 1), size[0] + size[1] + size[2] + size[3] + size[4]);
        x.drop(0, 0);
        x.drop(0, 0);
        for (int i = 0; i < 3; i++) {
            x.deliver(0, 0);
        }
        check.due("ranges that came", x.space(1, 2, 6), first > 0 ? 2 : 1);
        check.due("pending", x.space(1, 2, 7), 3);
        check.due("nothing is ready", x.stream(1, 0, 10), 0);
        check.due("but the highest is known", x.stream(1, 0, 11), 60);
        x.tick(1);
        int window = x.book(0, 2);
        x.deliver(1, 0);
        check.due("both are lost: three numbers below, or so long ago", x.space(0, 2, 4), 0);
        check.due("the greatest acknowledged", x.space(0, 2, 1), first + 4);
        check.due("bytes lost", x.stream(0, 0, 5), 21);
        check.due("bytes here", x.stream(0, 0, 6), 39);
        check.due("THRESHOLD", x.book(0, 3), window / 2);
        check.due("WINDOW", x.book(0, 2), window / 2);
        check.due("RECOVERY", x.book(0, 4), x.book(0, 0));
        check.due("nothing in flight", x.book(0, 1), 0);
        x.tick(1);
        check.due("they go again, in one frame", x.look(0, 9), 2 + 5 + 1);
        check.due("none lost any more", x.stream(0, 0, 5), 0);
        x.deliver(0, 0);
        check.due("all is there", x.stream(1, 0, 10), 60);
        lossTime();
    }

    private static void lossTime() {
        TransportPair x = Pairs.open(20);
        x.open(0, true);
        for (int i = 0; i < 2; i++) {
            Pairs.write(x, 0, 0, Pairs.row(5, i));
            x.tick(1);
        }
        int sent = x.at(0, 0, -2);
        x.drop(0, 0);
        int ticks = 0;
        while (x.space(0, 2, 2) < 0 && ticks < 100) {
            x.tick(1);
            ticks++;
        }
        long limit = x.book(0, 10);
        check.due("LOSS TIME: when it was sent, and LIMIT", x.space(0, 2, 2), sent + limit);
        check.due("it is out still", x.space(0, 2, 4), 1);
        x.tick((int) (sent + limit - x.book(0, 0) - 1));
        check.due("not lost yet", x.stream(0, 0, 5), 0);
        x.tick(1);
        check.due("lost, and sent again in the same tick", x.at(0, x.line(0, 0) - 1, -2), sent + limit);
        check.due("no LOSS TIME any more", x.space(0, 2, 2), -1);
    }

    private static void probes() {
        TransportPair x = Pairs.open(1);
        x.flow(0);
        x.open(0, true);
        Pairs.write(x, 0, 0, Pairs.row(5, 0));
        x.tick(1);
        int sent = x.book(0, 0);
        long patience = x.space(0, 2, 8);
        check.due("PROBE TIME", x.space(0, 2, 3), sent + patience);
        x.tick((int) patience - 1);
        int before = x.line(0, 0);
        check.due("not yet", before, 1);
        x.tick(1);
        check.due("two probes", x.line(0, 0), before + 2);
        check.due("none is due any more", x.look(0, 8), 0);
        check.due("the first has the bytes again", x.at(0, before, -1), 9 + 2 + 3 + 5 + 16);
        check.due("the second is a PING", x.at(0, before + 1, -1), 9 + 4 + 16);
        check.due("BACKOFF", x.book(0, 9), 1);
        check.due("the packet stays out", x.space(0, 2, 5), 3);
        check.due("PROBE TIME is twice as far", x.space(0, 2, 3), sent + 3 * patience);
        for (int i = 0; i < 25; i++) {
            x.tick(1000);
        }
        check.isTrue("BACKOFF grows", x.book(0, 9) > 5 && x.book(0, 9) <= 10);
        while (x.line(0, 0) > 1) {
            x.drop(0, 0);
        }
    }

    /** Eliciting packets over a long time are lost, none between them acknowledged: the window falls to the least. */
    private static void silence() {
        TransportPair x = Pairs.open(1);
        x.flow(0);
        x.open(0, true);
        for (int i = 0; i < 6; i++) {
            Pairs.write(x, 0, 0, Pairs.row(5, i));
            x.tick(60);
        }
        while (x.line(0, 0) > 0) {
            x.drop(0, 0);
        }
        Pairs.write(x, 0, 0, Pairs.row(5, 9));
        x.tick(1);
        x.deliver(0, 0);
        x.tick(26);
        while (x.line(1, 0) > 0) {
            x.deliver(1, 0);
        }
        check.due("WINDOW is the least", x.book(0, 2), 2400);
        check.due("RECOVERY is none", x.book(0, 4), -1);
        check.isTrue("THRESHOLD is half of what was", x.book(0, 3) >= 6000);
    }

    private static void acknowledgements() {
        TransportPair x = Pairs.open(1);
        x.flow(0);
        x.open(0, true);
        Pairs.write(x, 0, 0, Pairs.row(5, 0));
        x.tick(1);
        x.deliver(0, 0);
        x.tick(24);
        check.due("one that is next waits", x.line(1, 0), 0);
        check.due("pending", x.space(1, 2, 7), 1);
        x.tick(1);
        check.due("25 ticks", x.line(1, 0), 1);
        check.due("ACK alone", x.at(1, 0, -1), 9 + 2 + 5 + 16);
        check.due("not pending any more", x.space(1, 2, 7), 0);
        check.due("it is not counted", x.book(1, 1), 0);
        check.due("nor eliciting", x.space(1, 2, 5), 0);
        x.deliver(1, 0);
        for (int i = 0; i < 2; i++) {
            Pairs.write(x, 0, 0, Pairs.row(5, 0));
            x.tick(1);
        }
        x.deliver(0, 0);
        x.deliver(0, 0);
        x.tick(1);
        check.due("two do not wait", x.line(1, 0), 1);
        x.deliver(1, 0);
        for (int i = 0; i < 2; i++) {
            Pairs.write(x, 0, 0, Pairs.row(5, 0));
            x.tick(1);
        }
        x.deliver(0, 1);
        x.tick(1);
        check.due("nor one out of order", x.line(1, 0), 1);
        x.open(1, true);
        Pairs.write(x, 1, 1, Pairs.row(5, 0));
        x.drop(1, 0);
        x.deliver(0, 0);
        x.tick(1);
        check.due("an ACK goes with what goes", x.at(1, 0, -1), 9 + 2 + 5 + 3 + 5 + 16);
    }

    /** Every second packet is dropped: at most 64 ranges are kept. */
    private static void ranges() {
        TransportPair x = Pairs.open(1);
        x.flow(0);
        x.open(0, true);
        check.due("one packet has gone, and come", x.space(0, 2, 0) + x.space(1, 2, 6), 2);
        for (int i = 0; i < 130; i++) {
            Pairs.write(x, 0, 0, Pairs.row(1, i));
            x.tick(1);
            if (i % 2 == 0) {
                x.deliver(0, 0);
            } else {
                x.drop(0, 0);
            }
            while (x.line(0, 0) > 0) {
                x.drop(0, 0);
            }
            while (x.line(1, 0) > 0) {
                x.drop(1, 0);
            }
        }
        check.due("ranges", x.space(1, 2, 6), 64);
        check.due("FLOOR is one more than what went, 0 and 1", x.space(1, 2, 10), 2);
    }

    private static void stream() {
        TransportPair x = Pairs.open(1);
        x.open(0, true);
        x.open(0, false);
        Pairs.write(x, 0, 0, Pairs.row(30, 0));
        row("ahead of a tick", new long[] {0, 30, 0, 16384, 0, 0, 0, 0, 0, 0, 0, 0, -1, 16384, 0}, w -> x.stream(0, 0, w));
        row("one way", new long[] {0, 0, 0, 16384, 0, 0, 0, 0, -1, -1, -1, -1, -1, -1, -1}, w -> x.stream(0, 2, w));
        row("not there", new long[] {-1, -1, -1, -1, -1, -1, -1, -1, -1, -1, -1, -1, -1, -1, -1}, w -> x.stream(1, 0, w));
        x.finish(0, 0);
        x.tick(2);
        x.read(1, 0, 12);
        row("sent", new long[] {1, 30, 30, 16384, 0, 0, 0, 2}, w -> x.stream(0, 0, w));
        row("came", new long[] {2, 12, 30, 30, 30, 16384, 0}, w -> x.stream(1, 0, 8 + w));
        x.tick(40);
        row("arrived", new long[] {2, 30, 30, 16384, 0, 0, 30, 4}, w -> x.stream(0, 0, w));
        for (int id : new int[] {-1, 256, 1000, Integer.MIN_VALUE, Integer.MAX_VALUE}) {
            check.due("stream " + id, x.stream(0, id, 0) + x.stream(0, id, 8), -2);
        }
        x.flow(0);
        Pairs.rawNow(x, 0, 14, 4, 5, 2, 50, 51);
        row("a gap", new long[] {0, 0, 0, 7, -1, 16384, 0}, w -> x.stream(1, 4, 8 + w));
        Pairs.rawNow(x, 0, 10, 4, 6, 1, 2, 3, 4, 5, 99);
        row("closed, and what was there stays", new long[] {0, 0, 7, 7, -1, 16384, 0}, w -> x.stream(1, 4, 8 + w));
        x.read(1, 4, 7);
        check.due("the byte that came first", x.outs(5), 51 << 8 | 50);
    }

    private static void streams() {
        TransportPair x = Pairs.open(1);
        x.open(0, true);
        x.open(0, false);
        x.open(0, false);
        x.open(1, true);
        Pairs.write(x, 0, 6, Pairs.row(30, 0));
        Pairs.write(x, 1, 1, Pairs.row(7, 0));
        x.tick(2);
        x.read(1, 6, 10);
        row("side 0", new long[] {30, 65536, 7, 0, 65536, 1, 2, 16, 8, 1, 0, 16, 8, 30}, w -> x.streams(0, w));
        row("side 1", new long[] {7, 65536, 30, 10, 65536, 1, 0, 16, 8, 0, 2, 16, 8, 7}, w -> x.streams(1, w));
        x.flow(0);
        Pairs.rawNow(x, 0, 18, 64, 100, 19, 9, 16, 0x80, 1, 0, 1);
        check.due("MAX STREAMS counts 64 at most", x.streams(1, 7), 64);
        check.due("MAX STREAMS of one way", x.streams(1, 8), 9);
        check.due("MAX DATA", x.streams(1, 1), 65537);
        Pairs.rawNow(x, 0, 18, 3, 19, 3, 16, 3);
        check.due("none gets less", x.streams(1, 7) + x.streams(1, 8) + x.streams(1, 1), 64 + 9 + 65537);
    }

    /** Frames of every kind are lost and told again. */
    private static void lostFrames() {
        TransportPair x = Pairs.ready();
        x.parameter(1, 4, 100);
        x.parameter(1, 6, 60);
        x.parameter(1, 8, 1);
        Pairs.open(x, 1);
        x.open(0, true);
        Pairs.write(x, 0, 0, Pairs.row(60, 0));
        x.tick(3);
        x.read(1, 0, 50);
        x.stop(1, 0, 3);
        x.flow(0);
        x.tick(1);
        check.due("STOP, MAX DATA, MAX STREAM DATA and an ACK", x.at(1, x.line(1, 0) - 1, -1) >= 9 + 2 + 3 + 3 + 4 + 16 ? 1 : 0, 1);
        while (x.line(1, 0) > 0) {
            x.drop(1, 0);
        }
        x.flow(1);
        x.tick(200);
        check.due("STOP is sent again", x.stream(0, 0, 4), 3);
        check.due("MAX DATA likewise", x.streams(0, 1), 150);
        check.due("RESET comes back", x.stream(1, 0, 8), 4);
        x.finish(1, 0);
        x.tick(1);
        while (x.line(1, 0) > 0) {
            x.drop(1, 0);
        }
        x.tick(200);
        check.due("the end is sent again", x.stream(0, 0, 8), 3);
        check.due("then the stream is over", x.streams(0, 7), 2);
        check.due("and the next one may be opened", x.open(0, true), 4);
    }

    private static void amplification() {
        TransportPair x = Pairs.begun();
        x.tick(1);
        x.deliver(0, 0);
        for (int i = 0; i < 20; i++) {
            x.tick(1000);
        }
        check.isTrue("no more than three times what came", x.look(1, 7) <= 3600 && x.look(1, 7) > 3500);
        check.isTrue("so probes stay due", x.look(1, 8) > 0);
        check.due("side 1 is not validated", x.look(1, 3), 0);
    }

    /** Numbers above 255 are cut to their lowest bytes, and grow again; 4096 packets end a side (this goes beyond 512 calls). */
    private static void manyPackets() {
        TransportPair x = Pairs.open(1);
        x.open(0, true);
        for (int i = 0; i < 300; i++) {
            Pairs.write(x, 0, 0, Pairs.row(1, i));
            x.tick(1);
        }
        x.tick(1);
        check.due("packets", x.space(0, 2, 0), 301);
        check.due("all came", x.stream(1, 0, 10), 300);
        for (int i = 0; i < 3794; i++) {
            Pairs.write(x, 0, 0, Pairs.row(1, i));
            x.tick(1);
        }
        check.due("packets", x.space(0, 2, 0), 4095);
        check.due("not ended yet", x.look(0, 0), 2);
        Pairs.write(x, 0, 0, Pairs.row(1, 1));
        x.tick(1);
        check.due("one more", x.space(0, 2, 0), 4096);
        check.due("ended ahead of the next one", x.look(0, 0), 5);
        check.due("its reason", x.look(0, 1), 50000);
    }

    /** The QUIET time begins with a packet that opens, and with the first eliciting one that is sent behind it. */
    private static void quiet() {
        TransportPair x = Pairs.ready();
        x.parameter(0, 1, 500);
        Pairs.open(x, 1);
        x.flow(0);
        int opened = x.book(0, 0);
        Pairs.rawNow(x, 1, 1, 0);
        opened++;
        x.tick(400);
        x.open(0, true);
        Pairs.write(x, 0, 0, Pairs.row(5, 5));
        x.tick(1);
        int sent = x.book(0, 0);
        x.tick(200);
        check.isTrue("so long behind what opened", x.book(0, 0) > opened + 500);
        check.due("it begins anew with an eliciting one", x.look(0, 0), 2);
        x.tick(sent + 499 - x.book(0, 0));
        check.due("not anew with the next ones, its probes", x.look(0, 0), 2);
        x.tick(1);
        check.due("500 ticks behind it", x.look(0, 1), 40000);
    }
}
