import java.util.Arrays;
import java.util.NoSuchElementException;

/** Promises 17 to 24: deliver, drop, twice, alter, flow, tick, line, at. */
public final class LinesTest {
    private static final Check check = new Check();
    private static final Class<IllegalArgumentException> ARGUMENT = IllegalArgumentException.class;
    private static final Class<NoSuchElementException> NONE = NoSuchElementException.class;

    public static void main(String[] args) {
        deliver();
        drop();
        twice();
        alter();
        flow();
        tick();
        line();
        at();
        room();
        check.end();
    }

    private static void deliver() {
        TransportPair x = Pairs.begun();
        x.tick(1);
        check.refused("deliver(2, 0)", x, ARGUMENT, () -> x.deliver(2, 0));
        check.refused("deliver(0, 1)", x, NONE, () -> x.deliver(0, 1));
        check.refused("deliver(0, -1)", x, NONE, () -> x.deliver(0, -1));
        check.refused("deliver(1, 0)", x, NONE, () -> x.deliver(1, 0));
        check.due("deliver", x.deliver(0, 0), 1200);
        check.due("it has left the line", x.line(0, 0), 0);
        check.due("worked on at once", x.look(1, 0), 1);
        check.due("CAME", x.look(1, 6), 1200);
        check.due("sent only in a tick", x.line(1, 0), 0);
        x.tick(1);
        check.due("the answer", x.at(1, 0, -1), 1200);
        check.due("space 0 and 1 in it", x.space(1, 0, 0) + x.space(1, 1, 0), 2);
        x.deliver(1, 0);
        check.due("side 0 is open", x.look(0, 0), 2);
        x.tick(1);
        check.due("ACK in space 0, ACK and DONE in space 1", x.at(0, 0, -1), 136);
        check.due("side 0 has discarded space 0", x.space(0, 0, 9), 1);
        check.due("and has no guards there", x.space(0, 0, 11), 0);
        x.deliver(0, 0);
        check.due("side 1 is open", x.look(1, 0), 2);
        check.due("and confirmed", x.look(1, 2), 1);
        check.due("and has discarded both", x.space(1, 0, 9) + x.space(1, 1, 9), 2);
        x.tick(1);
        check.due("DONE with PADDING", x.at(1, 0, -1), 9 + 4 + 16);
        x.deliver(1, 0);
        check.due("side 0 is confirmed", x.look(0, 2), 1);
    }

    private static void drop() {
        TransportPair x = Pairs.begun();
        x.tick(301);
        check.due("three on the line", x.line(0, 0), 3);
        check.refused("drop(-1, 0)", x, ARGUMENT, () -> x.drop(-1, 0));
        check.refused("drop(0, 3)", x, NONE, () -> x.drop(0, 3));
        byte[] last = Pairs.datagram(x, 0, 2);
        check.due("drop", x.drop(0, 1), 1200);
        check.due("two left", x.line(0, 0), 2);
        check.isTrue("the others move up", Arrays.equals(last, Pairs.datagram(x, 0, 1)));
        check.due("nothing came", x.look(1, 6), 0);
        check.due("dropped ones are not lost for room", x.line(0, 2), 0);
    }

    private static void twice() {
        TransportPair x = Pairs.begun();
        x.tick(1);
        x.tick(5);
        check.refused("twice(2, 0)", x, ARGUMENT, () -> x.twice(2, 0));
        check.refused("twice(1, 0)", x, NONE, () -> x.twice(1, 0));
        check.due("twice", x.twice(0, 0), 2);
        check.due("as sent when it was", x.at(0, 1, -2), 1);
        check.isTrue("the same bytes", Arrays.equals(Pairs.datagram(x, 0, 0), Pairs.datagram(x, 0, 1)));
        x.alter(0, 0, 700, 1);
        check.isTrue("but bytes of its own", x.at(0, 0, 700) != x.at(0, 1, 700));
        x.deliver(0, 0);
        check.due("the altered one does not open", x.look(1, 0), 0);
        x.twice(0, 0);
        x.deliver(0, 0);
        x.tick(1);
        check.due("the doubled one is old", x.deliver(0, 0), 1200);
        check.due("its bytes CAME all the same", x.look(1, 6), 3600);
        check.due("nothing pending of it", x.space(1, 0, 7), 0);
    }

    private static void alter() {
        TransportPair x = Pairs.begun();
        x.tick(1);
        int was = x.at(0, 0, 3);
        check.due("alter", x.alter(0, 0, 3, 0x1234f1), was ^ 0xf1);
        check.due("back again", x.alter(0, 0, 3, -256 + 0xf1), was);
        check.refused("alter(2, ..)", x, ARGUMENT, () -> x.alter(2, 0, 0, 1));
        check.refused("alter k 1", x, NONE, () -> x.alter(0, 1, 0, 1));
        check.refused("alter k -1", x, NONE, () -> x.alter(0, -1, 0, 1));
        check.refused("alter i -1", x, NONE, () -> x.alter(0, 0, -1, 1));
        check.refused("alter i 1200", x, NONE, () -> x.alter(0, 0, 1200, 1));
        check.due("alter the last byte", x.alter(0, 0, 1199, 128), x.at(0, 0, 1199));
        x.alter(0, 0, 1199, 128);
        for (int i = 0; i < 1200; i += i < 60 ? 1 : 60) {
            x.twice(0, 0);
            x.alter(0, 0, i, 1 << i % 8);
            x.deliver(0, 0);
            check.due("no packet opens with byte " + i + " altered", x.look(1, 0), 0);
        }
        for (int i = 0; i < 30; i++) {
            for (int mask = 1; mask < 256; mask++) {
                x.twice(0, 0);
                x.alter(0, 0, i, mask);
                x.deliver(0, 0);
            }
            check.due("nor with any other byte " + i + " of its head", x.look(1, 0), 0);
        }
        x.alter(0, 0, 77, 256);
        x.deliver(0, 0);
        check.due("a mask of 256 is none", x.look(1, 0), 1);
    }

    private static void flow() {
        TransportPair x = Pairs.begun();
        check.refused("flow(-1)", x, ARGUMENT, () -> { x.flow(-1); return 0; });
        check.refused("flow(1001)", x, ARGUMENT, () -> { x.flow(1001); return 0; });
        x.flow(1000);
        x.flow(7);
        x.tick(7);
        check.due("not yet", x.look(1, 0), 0);
        x.tick(1);
        check.due("7 ticks behind its sending", x.look(1, 0), 1);
        check.due("the answer goes in the same tick", x.at(1, 0, -2), 8);
        x.flow(0);
        x.tick(50);
        check.due("no flow", x.line(1, 0), 1);
        x.flow(3);
        x.tick(1);
        check.due("all that is older comes at once", x.look(0, 0), 2);
        TransportPair y = Pairs.open(4);
        int rtt = y.book(0, 7);
        check.due("in a tick the books are at the time of the tick before yet", rtt, 7);
    }

    private static void tick() {
        TransportPair x = new TransportPair();
        check.refused("tick(0)", x, ARGUMENT, () -> x.tick(0));
        check.refused("tick(-5)", x, ARGUMENT, () -> x.tick(-5));
        check.refused("tick(1001)", x, ARGUMENT, () -> x.tick(1001));
        check.due("tick", x.tick(1), 1);
        check.due("the books tick, too", x.book(0, 0) + x.book(1, 0), 2);
        for (int i = 1; i <= 199; i++) {
            check.due("tick(1000)", x.tick(1000), 1000 * i + 1);
        }
        check.refused("beyond 200000", x, IllegalStateException.class, () -> x.tick(1000));
        check.due("up to 199999", x.tick(998), 199999);
        check.refused("beyond 200000", x, IllegalStateException.class, () -> x.tick(2));
        check.due("up to 200000", x.tick(1), 200000);
        check.refused("what is wrong comes first", x, ARGUMENT, () -> x.tick(0));
        check.refused("no more", x, IllegalStateException.class, () -> x.tick(1));
    }

    private static void line() {
        TransportPair x = Pairs.begun();
        check.refused("line(2, 0)", x, ARGUMENT, () -> x.line(2, 0));
        check.refused("line(0, 3)", x, ARGUMENT, () -> x.line(0, 3));
        check.refused("line(0, -1)", x, ARGUMENT, () -> x.line(0, -1));
        x.tick(1);
        x.twice(0, 0);
        x.drop(0, 0);
        check.due("on it", x.line(0, 0), 1);
        check.due("sent, the doubled one, too", x.line(0, 1), 2);
        check.due("lost", x.line(0, 2), 0);
        check.due("the other way", x.line(1, 1), 0);
    }

    private static void at() {
        TransportPair x = Pairs.begun();
        x.tick(3);
        check.due("size", x.at(0, 0, -1), 1200);
        check.due("when it was sent", x.at(0, 0, -2), 1);
        int[] head = {0, 0, 0, 1, 8};
        for (int i = 0; i < 5; i++) {
            check.due("version and size of a name", x.at(0, 0, 1 + i), head[i]);
        }
        byte[] random = Pairs.randomOf(0);
        for (int i = 0; i < 8; i++) {
            check.due("the first name", x.at(0, 0, 6 + i), random[8 + i] & 255);
            check.due("the own name", x.at(0, 0, 15 + i), random[i] & 255);
        }
        check.due("no token", x.at(0, 0, 23), 0);
        check.due("LENGTH in two bytes", x.at(0, 0, 24) << 8 | x.at(0, 0, 25), 0x4000 + 1200 - 26);
        check.refused("at(2, ..)", x, ARGUMENT, () -> x.at(2, 0, 0));
        check.refused("at k 1", x, NONE, () -> x.at(0, 1, -1));
        check.refused("at k -1", x, NONE, () -> x.at(0, -1, -1));
        check.refused("at i 1200", x, NONE, () -> x.at(0, 0, 1200));
        check.refused("at i -3", x, NONE, () -> x.at(0, 0, -3));
    }

    private static void room() {
        TransportPair x = Pairs.begun();
        x.tick(1);
        for (int i = 2; i <= 96; i++) {
            check.due("twice", x.twice(0, 0), i);
        }
        check.due("one more is lost", x.twice(0, 5), 96);
        check.due("but sent", x.line(0, 1), 97);
        check.due("lost for room", x.line(0, 2), 1);
        x.tick(300);
        check.due("so are those that are sent", x.line(0, 2), 3);
        check.due("a side counts them as sent", x.look(0, 7), 3600);
        x.drop(0, 95);
        check.due("room again", x.twice(0, 0), 96);
    }
}
