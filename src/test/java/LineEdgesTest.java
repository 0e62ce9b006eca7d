import java.util.Arrays;
import java.util.NoSuchElementException;

/** Promises 17 to 24 at their edges: the lines, the flow, and ticks; and 25 to 27, what there is to be asked. */
public final class LineEdgesTest {
    private static final Check check = new Check();
    private static final Class<IllegalArgumentException> ARGUMENT = IllegalArgumentException.class;
    private static final Class<NoSuchElementException> NONE = NoSuchElementException.class;
    private static final int LEAST = Integer.MIN_VALUE;
    private static final int MOST = Integer.MAX_VALUE;

    public static void main(String[] args) {
        noSuchWay();
        noSuchDatagram();
        noSuchByte();
        masks();
        deliverOne();
        dropOne();
        ninetySix();
        ninetySixSent();
        flowTicks();
        flowComes();
        flowOrder();
        tickCounts();
        lastTick();
        whats();
        check.end();
    }

    /** Three datagrams on way 0, of which each is another one. */
    private static TransportPair three() {
        TransportPair x = Pairs.begun();
        x.tick(301);
        check.due("three", x.line(0, 0), 3);
        return x;
    }

    /** "IllegalArgumentException when there is no such way", ahead of all others. */
    private static void noSuchWay() {
        TransportPair x = three();
        for (int way : new int[] {-1, 2, LEAST, MOST}) {
            for (int k : new int[] {-1, 0, 3}) {
                check.refused("deliver " + way, x, ARGUMENT, () -> x.deliver(way, k));
                check.refused("drop " + way, x, ARGUMENT, () -> x.drop(way, k));
                check.refused("twice " + way, x, ARGUMENT, () -> x.twice(way, k));
                check.refused("alter " + way, x, ARGUMENT, () -> x.alter(way, k, 0, 1));
                check.refused("alter " + way + ", no byte", x, ARGUMENT, () -> x.alter(way, k, -1, 1));
                check.refused("at " + way, x, ARGUMENT, () -> x.at(way, k, 0));
                check.refused("at " + way + ", no byte", x, ARGUMENT, () -> x.at(way, k, 5000));
            }
            for (int what = 0; what < 3; what++) {
                int w = what;
                check.refused("line " + way, x, ARGUMENT, () -> x.line(way, w));
            }
        }
    }

    /** "NoSuchElementException when there is no such datagram". */
    private static void noSuchDatagram() {
        TransportPair x = three();
        for (int k : new int[] {LEAST, -1, 3, 4, 95, 96, MOST}) {
            check.refused("deliver " + k, x, NONE, () -> x.deliver(0, k));
            check.refused("drop " + k, x, NONE, () -> x.drop(0, k));
            check.refused("twice " + k, x, NONE, () -> x.twice(0, k));
            check.refused("alter " + k, x, NONE, () -> x.alter(0, k, 0, 1));
            check.refused("at " + k, x, NONE, () -> x.at(0, k, 0));
            check.refused("size of " + k, x, NONE, () -> x.at(0, k, -1));
            check.refused("time of " + k, x, NONE, () -> x.at(0, k, -2));
        }
        for (int k = 0; k < 3; k++) {
            check.due("size of " + k, x.at(0, k, -1), 1200);
            check.due("time of " + k, x.at(0, k, -2), k == 0 ? 1 : 301);
        }
        check.refused("none on the other way", x, NONE, () -> x.deliver(1, 0));
    }

    /** "also when there is no such byte (i or k below 0, too)"; "i = -1: its size, -2: when it was sent". */
    private static void noSuchByte() {
        TransportPair x = Pairs.still();
        Pairs.tape(x, 1, 1, 1);
        x.raw(0);
        x.tick(1);
        int size = x.at(0, 0, -1);
        check.due("size", size, 9 + 2 + 3 + 16);
        for (int i : new int[] {LEAST, -3, size, size + 1, 1199, 1200, MOST}) {
            check.refused("at " + i, x, NONE, () -> x.at(0, 0, i));
            check.refused("alter " + i, x, NONE, () -> x.alter(0, 0, i, 1));
        }
        for (int i = -2; i < 0; i++) {
            int k = i;
            check.refused("alter " + i, x, NONE, () -> x.alter(0, 0, k, 1));
        }
        check.due("when it was sent", x.at(0, 0, -2), x.book(0, 0));
        for (int i = 0; i < size; i++) {
            int was = x.at(0, 0, i);
            check.isTrue("byte " + i, was >= 0 && was < 256);
            check.due("altered", x.alter(0, 0, i, 255), was ^ 255);
            check.due("as it is then", x.at(0, 0, i), was ^ 255);
            check.due("and back", x.alter(0, 0, i, 255), was);
        }
        x.deliver(0, 0);
        check.due("it opens", x.space(1, 2, 7), 1);
    }

    /** "becomes itself ^ mask (its lowest 8 bits)". */
    private static void masks() {
        TransportPair x = three();
        int was = x.at(0, 1, 600);
        for (int mask : new int[] {0, 1, 128, 255, 256, 257, -1, -256, LEAST, MOST, 0x12345678}) {
            check.due("mask " + mask, x.alter(0, 1, 600, mask), was ^ mask & 255);
            check.due("back", x.alter(0, 1, 600, mask & 255), was);
        }
        check.due("no other one", x.at(0, 0, 600) == x.at(0, 1, 600) ? 1 : 0, 0);
    }

    /** "What comes leaves the line first"; the others keep their order. */
    private static void deliverOne() {
        for (int k = 0; k < 3; k++) {
            TransportPair x = three();
            byte[][] rows = {Pairs.datagram(x, 0, 0), Pairs.datagram(x, 0, 1), Pairs.datagram(x, 0, 2)};
            check.due("deliver " + k, x.deliver(0, k), 1200);
            check.due("two are left", x.line(0, 0), 2);
            check.isTrue("the first", Arrays.equals(Pairs.datagram(x, 0, 0), rows[k == 0 ? 1 : 0]));
            check.isTrue("the second", Arrays.equals(Pairs.datagram(x, 0, 1), rows[k == 2 ? 1 : 2]));
            check.due("it has come", x.look(1, 0) * 10000 + x.look(1, 6), 11200);
            check.refused("no third", x, NONE, () -> x.deliver(0, 2));
        }
    }

    private static void dropOne() {
        for (int k = 0; k < 3; k++) {
            TransportPair x = three();
            byte[][] rows = {Pairs.datagram(x, 0, 0), Pairs.datagram(x, 0, 1), Pairs.datagram(x, 0, 2)};
            check.due("drop " + k, x.drop(0, k), 1200);
            check.isTrue("the first", Arrays.equals(Pairs.datagram(x, 0, 0), rows[k == 0 ? 1 : 0]));
            check.isTrue("the second", Arrays.equals(Pairs.datagram(x, 0, 1), rows[k == 2 ? 1 : 2]));
            check.due("nothing has come", x.look(1, 0) + x.look(1, 6), 0);
            check.due("sent, lost for room", x.line(0, 1) * 10 + x.line(0, 2), 30);
        }
    }

    /** "(lost, if there are 96): how many there are then (96, if it was lost)". */
    private static void ninetySix() {
        TransportPair x = three();
        x.tick(10);
        for (int i = 4; i <= 96; i++) {
            check.due("twice", x.twice(0, i % 3), i);
            check.due("as sent when it was", x.at(0, i - 1, -2), i % 3 == 0 ? 1 : 301);
        }
        check.due("none was lost", x.line(0, 2), 0);
        byte[] last = Pairs.datagram(x, 0, 95);
        for (int i = 1; i <= 3; i++) {
            check.due("one more", x.twice(0, 0), 96);
            check.due("lost for room", x.line(0, 2), i);
            check.due("sent", x.line(0, 1), 96 + i);
            check.isTrue("the last one is as it was", Arrays.equals(last, Pairs.datagram(x, 0, 95)));
        }
        x.drop(0, 40);
        check.due("95", x.line(0, 0), 95);
        check.due("room for one", x.twice(0, 0), 96);
        check.due("not lost", x.line(0, 2), 3);
        check.due("again none", x.twice(0, 0), 96);
        check.due("lost", x.line(0, 2), 4);
        check.due("the other way has room of its own", x.line(1, 0) + x.line(1, 1) + x.line(1, 2), 0);
    }

    /** "each has at most 96 datagrams .. (one more is lost)", those that a side sends, too. */
    private static void ninetySixSent() {
        for (int there = 94; there <= 96; there++) {
            TransportPair x = Pairs.begun();
            x.tick(1);
            for (int i = 1; i < there; i++) {
                x.twice(0, 0);
            }
            int sent = x.line(0, 1);
            x.tick(300);
            check.due("two probes behind " + there, x.line(0, 1), sent + 2);
            check.due("how many are there", x.line(0, 0), 96);
            check.due("how many were lost", x.line(0, 2), there - 94);
            check.due("a side does not know", x.look(0, 7) * 10 + x.space(0, 0, 4), 36003);
            check.due("the last one", x.at(0, 95, -2), there == 96 ? 1 : 301);
        }
    }

    /** "Throws IllegalArgumentException when d is not 0 .. 1000." */
    private static void flowTicks() {
        TransportPair x = three();
        for (int d : new int[] {LEAST, -1, 1001, MOST}) {
            check.refused("flow " + d, x, ARGUMENT, () -> { x.flow(d); return 0; });
        }
        x.flow(1000);
        x.tick(699);
        check.due("1000 ticks: the first one was sent at 1", x.look(1, 0), 0);
        check.refused("a refused one", x, ARGUMENT, () -> { x.flow(1001); return 0; });
        x.tick(1);
        check.due("time", x.book(0, 0), 1001);
        check.due("leaves the flow as it was", x.look(1, 0), 1);
    }

    /** "each comes by itself in the first tick in which d ticks or more have gone by since it was sent". */
    private static void flowComes() {
        for (int d = 1; d <= 5; d++) {
            TransportPair x = Pairs.begun();
            x.flow(d);
            x.tick(d);
            check.due("sent at 1, at " + d, x.look(1, 6), 0);
            x.tick(1);
            check.due("d ticks behind", x.look(1, 6), 1200);
            check.due("side 1 has answered in that tick", x.at(1, 0, -2), d + 1);
            check.due("its book was at the tick before, then it ticked", x.book(1, 0), d + 1);
        }
        TransportPair x = three();
        x.flow(3);
        x.flow(0);
        x.tick(5);
        check.due("none with 0", x.line(0, 0), 3);
        x.flow(1);
        check.due("not ahead of a tick", x.line(0, 0), 3);
        x.tick(1);
        check.due("all of them, as they are older", x.line(0, 0), 0);
        check.due("came", x.look(1, 6), 3600);
    }

    /** "those that come by themselves do, on way 0 first, one by one as they lie"; a doubled one by its own time. */
    private static void flowOrder() {
        TransportPair x = three();
        x.flow(5);
        x.tick(4);
        check.due("the first one has come in the first tick", x.line(0, 0), 2);
        x.tick(1);
        check.due("the others 5 ticks behind 301", x.line(0, 0), 0);
        TransportPair y = three();
        y.twice(0, 0);
        y.flow(5);
        y.tick(1);
        check.due("both of the first tick", y.line(0, 0), 2);
        check.due("came", y.look(1, 6), 2400);
        TransportPair z = Pairs.still();
        z.open(0, true);
        for (int i = 0; i < 3; i++) {
            Pairs.write(z, 0, 0, Pairs.row(1, i));
            z.tick(1);
        }
        z.flow(1);
        z.tick(1);
        check.due("in order: two pending, so an ACK at once", z.line(1, 0), 1);
        check.due("all came", z.stream(1, 0, 10), 3);
    }

    /** "when n is not 1 .. 1000". */
    private static void tickCounts() {
        TransportPair x = three();
        for (int n : new int[] {LEAST, -1, 0, 1001, MOST}) {
            check.refused("tick " + n, x, ARGUMENT, () -> x.tick(n));
        }
        check.due("1", x.tick(1), 302);
        check.due("2", x.tick(2), 304);
        check.due("999", x.tick(999), 1303);
        check.due("1000", x.tick(1000), 2303);
        check.due("the books", x.book(0, 0) + x.book(1, 0), 2 * 2303);
    }

    /** "IllegalStateException when there would be more than 200000". */
    private static void lastTick() {
        for (int left = 0; left <= 2; left++) {
            TransportPair x = Pairs.ready();
            for (int i = 0; i < 199; i++) {
                x.tick(1000);
            }
            if (left < 2) {
                x.tick(999 - left);
                x.tick(1);
            } else {
                x.tick(998);
            }
            check.due("time", x.book(0, 0), 200000 - left);
            int more = left + 1;
            check.refused("one more than there are", x, IllegalStateException.class, () -> x.tick(more));
            check.refused("many more", x, IllegalStateException.class, () -> x.tick(1000));
            check.refused("too many at once comes first", x, ARGUMENT, () -> x.tick(1001));
            if (left > 0) {
                check.due("all that are left", x.tick(left), 200000);
            }
            check.refused("none is left", x, IllegalStateException.class, () -> x.tick(1));
            check.refused("0 comes first", x, ARGUMENT, () -> x.tick(0));
        }
    }

    /** "when there is no such side or what"; "no such side, space or what". */
    private static void whats() {
        TransportPair x = three();
        for (int none : new int[] {LEAST, -1, 2, MOST}) {
            check.refused("look, side " + none, x, ARGUMENT, () -> x.look(none, 0));
            check.refused("book, side " + none, x, ARGUMENT, () -> x.book(none, 0));
            check.refused("space, side " + none, x, ARGUMENT, () -> x.space(none, 0, 0));
        }
        for (int none : new int[] {LEAST, -1, MOST}) {
            check.refused("look " + none, x, ARGUMENT, () -> x.look(0, none));
            check.refused("book " + none, x, ARGUMENT, () -> x.book(0, none));
            check.refused("line " + none, x, ARGUMENT, () -> x.line(0, none));
            check.refused("space " + none, x, ARGUMENT, () -> x.space(0, none, 0));
            check.refused("space 0, " + none, x, ARGUMENT, () -> x.space(0, 0, none));
        }
        check.refused("look 10", x, ARGUMENT, () -> x.look(0, 10));
        check.refused("book 11", x, ARGUMENT, () -> x.book(0, 11));
        check.refused("line 3", x, ARGUMENT, () -> x.line(0, 3));
        check.refused("space 3", x, ARGUMENT, () -> x.space(0, 3, 0));
        check.refused("space 0, 12", x, ARGUMENT, () -> x.space(0, 0, 12));
        check.due("the last ones", x.look(0, 9) + x.book(1, 10) + x.space(0, 2, 11) + x.line(0, 2), 2 + 112);
    }
}
