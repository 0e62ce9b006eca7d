import java.util.Arrays;

/** Datagrams that the sides would not have sent themselves, but that open (promises 17, 25 and 27). */
public final class ForgedTest {
    private static final Check check = new Check();
    private static final int GREETING = 1;
    private static final int OPEN = 2;
    private static final int CLOSING = 3;
    private static final int DRAINING = 4;
    private static final byte[] PING = {1};

    public static void main(String[] args) throws Exception {
        takenOnceAtHello();
        takenOnceAtAnswer();
        takenOnceAtGranted();
        takenOnceAtDone();
        faultsOfTheGreeting();
        parametersOfSideZero();
        parametersOfSideOne();
        frames();
        heads();
        numbers();
        namesAndSizes();
        lastLevel();
        check.end();
    }

    /** So many ticks bring two probes: the sender has used three numbers then, which may be acknowledged. */
    private static final int PROBED = 310;

    /** Side 0 has sent HELLO; nothing has come. */
    private static TransportPair asked() {
        TransportPair x = Pairs.begun();
        x.tick(PROBED);
        return x;
    }

    /** Side 1 has sent its messages, which lie on way 1. */
    private static TransportPair answered() {
        TransportPair x = asked();
        x.deliver(0, 0);
        x.tick(PROBED);
        return x;
    }

    /** Side 0 has sent its DONE, which lies on way 0. */
    private static TransportPair granted() {
        TransportPair x = answered();
        x.deliver(1, 0);
        while (x.line(0, 0) > 0) {
            x.drop(0, 0);
        }
        x.tick(PROBED);
        return x;
    }

    private static TransportPair asked(Forge forge, byte[]... frames) throws Exception {
        TransportPair x = asked();
        Forge.comes(x, 0, forge.packet(0, 0, 0, 1200, frames));
        return x;
    }

    private static void state(String what, TransportPair x, int side, int state, int reason, int waits) {
        check.due(what + ": state", x.look(side, 0), state);
        check.due(what + ": reason", x.look(side, 1), reason);
        check.due(what + ": waits for", x.look(side, 4), waits);
    }

    private static void opens(String what, TransportPair x) {
        x.flow(1);
        x.tick(60);
        state(what + ", side 0", x, 0, OPEN, 0, 0);
        state(what + ", side 1", x, 1, OPEN, 0, 0);
        check.due(what + ": side 0 is confirmed", x.look(0, 2), 1);
    }

    private static void takenOnceAtHello() throws Exception {
        Forge forge = new Forge();
        byte[] hello = forge.hello;
        for (int k : new int[] {1, 2, 3, 4, 5, 36, 40, hello.length - 1}) {
            String what = "HELLO, " + k + " bytes ahead";
            TransportPair x = asked();
            Forge.comes(x, 0, forge.packet(0, 0, 0, 1200, Forge.crypto(0, Arrays.copyOf(hello, k))));
            state(what, x, 1, GREETING, 0, 1);
            Forge.comes(x, 0, forge.packet(0, 0, 1, 1200, Forge.crypto(0, Forge.spoiled(hello, 0, k))));
            state(what, x, 1, GREETING, 0, 20);
            opens(what, x);
            x = asked();
            Forge.comes(x, 0, forge.packet(0, 0, 0, 1200, Forge.crypto(1, Arrays.copyOfRange(Forge.spoiled(hello, 1, k + 1), 1, hello.length))));
            state(what + ", behind a gap", x, 1, GREETING, 0, 1);
            Forge.comes(x, 0, forge.packet(0, 0, 1, 1200, Forge.crypto(0, hello)));
            state(what + ", behind a gap", x, 1, GREETING, 0, 20);
            opens(what + ", behind a gap", x);
        }
        TransportPair x = asked(forge, Forge.crypto(0, Arrays.copyOf(hello, 3)), Forge.crypto(0, Forge.spoiled(hello, 0, 3)));
        state("both in one packet", x, 1, GREETING, 0, 20);
        opens("both in one packet", x);
        byte[] sized = Keys.bytes(9, 9, hello.length - 4);
        x = asked(forge, Forge.crypto(0, Arrays.copyOf(hello, 3)), Forge.crypto(1, sized), Forge.crypto(0, hello));
        state("a piece that begins within what was taken", x, 1, GREETING, 0, 20);
        opens("a piece that begins within what was taken", x);
        x = asked(forge, Forge.crypto(0, hello), Forge.crypto(0, Forge.spoiled(hello, 0, hello.length)));
        state("other bytes at the places of a whole message", x, 1, GREETING, 0, 20);
        opens("other bytes at the places of a whole message", x);
    }

    private static void takenOnceAtAnswer() throws Exception {
        Forge forge = new Forge();
        for (int k : new int[] {1, 4, 20, 35}) {
            String what = "ANSWER, " + k + " bytes ahead";
            TransportPair x = answered();
            Forge.comes(x, 1, forge.packet(0, 1, 0, 1200, Forge.crypto(0, Arrays.copyOf(forge.answer, k))));
            state(what, x, 0, GREETING, 0, 2);
            Forge.comes(x, 1, forge.packet(0, 1, 1, 1200, Forge.crypto(0, Forge.spoiled(forge.answer, 0, k))));
            state(what, x, 0, GREETING, 0, 8);
            check.due(what + ": secrets", x.look(0, 5), 1);
            opens(what, x);
        }
    }

    private static void takenOnceAtGranted() throws Exception {
        Forge forge = new Forge();
        int all = forge.granted.length;
        byte[] answers = forge.packet(0, 1, 0, 0, Forge.crypto(0, forge.answer));
        for (int k : new int[] {1, 4, 30, all - 36, all - 35, all - 1}) {
            String what = "PARAMETERS and DONE, " + k + " bytes ahead";
            TransportPair x = answered();
            byte[] pieces = Keys.join(Forge.crypto(0, Arrays.copyOf(forge.granted, k)),
                Forge.crypto(0, Forge.spoiled(forge.granted, 0, k)));
            Forge.comes(x, 1, Keys.join(answers, forge.packet(1, 1, 0, 1200 - answers.length, pieces)));
            state(what, x, 0, OPEN, 0, 0);
            opens(what, x);
            x = answered();
            byte[] piece = Forge.crypto(0, Arrays.copyOf(forge.granted, k));
            Forge.comes(x, 1, Keys.join(answers, forge.packet(1, 1, 0, 1200 - answers.length, piece)));
            state(what + " alone", x, 0, GREETING, 0, k < all - 36 ? 8 : 20);
            Forge.comes(x, 1, forge.packet(1, 1, 1, 1200, Forge.crypto(0, Forge.spoiled(forge.granted, 0, k))));
            state(what + " by another packet", x, 0, OPEN, 0, 0);
            check.due(what + " by another packet: secrets", x.look(0, 5), 2);
        }
    }

    private static void takenOnceAtDone() throws Exception {
        Forge forge = new Forge();
        for (int k : new int[] {1, 4, 20, 35}) {
            String what = "DONE, " + k + " bytes ahead";
            TransportPair x = granted();
            int size = x.at(0, 0, -1);
            Forge.comes(x, 0, forge.packet(1, 0, 0, size, Forge.crypto(0, Arrays.copyOf(forge.done0, k))));
            state(what, x, 1, GREETING, 0, 20);
            check.due(what + ": validated", x.look(1, 3), 1);
            Forge.comes(x, 0, forge.packet(1, 0, 1, size, Forge.crypto(0, Forge.spoiled(forge.done0, 0, k))));
            state(what, x, 1, OPEN, 0, 0);
            opens(what, x);
        }
    }

    private static void faultsOfTheGreeting() throws Exception {
        Forge forge = new Forge();
        byte[] hello = forge.hello;
        state("another type", asked(forge, Forge.crypto(0, Keys.bytes(2))), 1, CLOSING, 266, 0);
        state("three bytes", asked(forge, Forge.crypto(0, Keys.bytes(1, 255, 255))), 1, GREETING, 0, 1);
        state("a size too large", asked(forge, Forge.crypto(0, Keys.bytes(1, 1, 0, 40))), 1, CLOSING, 306, 0);
        state("a size too small", asked(forge, Forge.crypto(0, Keys.bytes(1, 0, 0, 31))), 1, CLOSING, 306, 0);
        state("the least size", asked(forge, Forge.crypto(0, Keys.bytes(1, 0, 0, 32))), 1, GREETING, 0, 1);
        state("the greatest size", asked(forge, Forge.crypto(0, Keys.bytes(1, 0, 1, 76))), 1, GREETING, 0, 1);
        state("one more", asked(forge, Forge.crypto(0, Keys.bytes(1, 0, 1, 77))), 1, CLOSING, 306, 0);
        TransportPair x = asked(forge, Forge.crypto(0, Keys.join(hello, Keys.bytes(20))));
        state("a byte behind HELLO", x, 1, CLOSING, 266, 0);
        check.due("the secrets are there", x.look(1, 5), 2);
        check.due("and the guards of space 1", x.space(1, 1, 11), 1);
        check.due("but none of space 2", x.space(1, 2, 11), 0);
        x = asked(forge, Forge.crypto(hello.length, Keys.bytes(20)));
        state("a byte that has to wait", x, 1, GREETING, 0, 1);
        Forge.comes(x, 0, forge.packet(0, 0, 1, 1200, Forge.crypto(0, hello)));
        state("a byte that had to wait", x, 1, CLOSING, 266, 0);
        state("the last place", asked(forge, Forge.crypto(2047, PING)), 1, GREETING, 0, 1);
        state("behind the last place", asked(forge, Forge.crypto(2048, PING)), 1, CLOSING, 13, 1);
        state("no bytes at the end", asked(forge, Forge.crypto(2048, Keys.NONE)), 1, GREETING, 0, 1);
        state("no bytes behind the end", asked(forge, Forge.crypto(2049, Keys.NONE)), 1, CLOSING, 13, 1);

        x = granted();
        int size = x.at(0, 0, -1);
        Forge.comes(x, 0, forge.packet(1, 0, 0, size, Forge.crypto(0, Forge.spoiled(forge.done0, 20, 21))));
        state("a wrong proof of side 0", x, 1, CLOSING, 307, 0);
        x = granted();
        Forge.comes(x, 0, forge.packet(1, 0, 0, size, Forge.crypto(0, Keys.join(forge.done0, PING))));
        state("a byte behind DONE", x, 1, CLOSING, 266, 0);
        x = granted();
        Forge.comes(x, 0, forge.packet(1, 0, 0, size, Forge.crypto(0, forge.done0), Forge.crypto(36, PING)));
        state("a byte behind DONE in the next frame", x, 1, CLOSING, 266, 0);
        check.due("it was OPEN, and has guards in space 2", x.space(1, 2, 11), 1);
        check.due("space 1 is discarded", x.space(1, 1, 9), 1);
        x = answered();
        byte[] answers = forge.packet(0, 1, 0, 0, Forge.crypto(0, forge.answer));
        byte[] wrong = Forge.spoiled(forge.granted, forge.granted.length - 1, forge.granted.length);
        Forge.comes(x, 1, Keys.join(answers, forge.packet(1, 1, 0, 1200 - answers.length, Forge.crypto(0, wrong))));
        state("a wrong proof of side 1", x, 0, CLOSING, 307, 0);
        check.due("no talk secrets", x.look(0, 5), 1);
        x = answered();
        Forge.comes(x, 1, forge.packet(0, 1, 0, 1200, Forge.crypto(0, Keys.join(forge.answer, PING))));
        state("a byte behind ANSWER", x, 0, CLOSING, 266, 0);
    }

    private static void told(String what, int reason, int... more) throws Exception {
        Forge forge = new Forge(Keys.bytes(more), null);
        TransportPair x = asked(forge, Forge.crypto(0, forge.hello));
        state(what, x, 1, reason == 0 ? GREETING : CLOSING, reason, 20);
        check.due(what + ": the limit of all data", x.streams(1, 1), reason == 0 ? 65536 : 0);
    }

    private static void parametersOfSideZero() throws Exception {
        told("as they are", 0);
        told("ids that mean nothing, twice", 0, 0x40, 17, 1, 200, 0x40, 17, 0);
        told("11, the most", 0, 11, 2, 0x7f, 0xff);
        told("11, one more", 8, 11, 4, 0x80, 0, 0x40, 0);
        told("12 without data", 0, 12, 0);
        told("12 with data", 8, 12, 1, 0);
        told("14 for the second time", 8, 14, 1, 2);
        told("0 is not of side 0", 8, 0, 0);
        told("2 is not of side 0", 8, 2, 16, 0, 0, 0, 0, 0, 0, 0, 0, 0, 0, 0, 0, 0, 0, 0, 0);
        told("13 is not of side 0", 8, 13, 41, 0, 0, 0, 0, 0, 0, 0, 0, 0, 0, 0, 0, 0, 0, 0, 0, 0, 0, 0, 0, 0, 0, 0, 0, 0, 0,
            0, 0, 0, 0, 0, 0, 0, 0, 0, 0, 0, 0, 0, 0, 0);
        told("16 is not of side 0", 8, 16, 0);
        told("an id that is cut", 8, 0x40);
        told("an id alone", 8, 11);
        told("data that is cut", 8, 11, 2, 0);
        told("data of two numbers", 8, 11, 2, 1, 1);
        told("a number that is cut within its data", 8, 11, 1, 0x40);
        told("no data", 8, 11, 0);
    }

    private static void toldBySideOne(String what, int reason, byte[]... parts) throws Exception {
        Forge forge = new Forge(Keys.NONE, Keys.join(parts));
        byte[] answers = forge.packet(0, 1, 0, 0, Forge.crypto(0, forge.answer));
        TransportPair x = answered();
        Forge.comes(x, 1, Keys.join(answers, forge.packet(1, 1, 0, 1200 - answers.length, Forge.crypto(0, forge.granted))));
        state(what, x, 0, reason == 0 ? OPEN : CLOSING, reason, 0);
        check.due(what + ": guards in space 2", x.space(0, 2, 11), reason == 0 ? 1 : 0);
        check.due(what + ": secrets", x.look(0, 5), 2);
        x = answered();
        byte[] ahead = Arrays.copyOf(forge.granted, forge.granted.length - 1);
        Forge.comes(x, 1, Keys.join(answers, forge.packet(1, 1, 0, 1200 - answers.length, Forge.crypto(0, ahead))));
        state(what + ", ahead of DONE", x, 0, reason == 0 ? GREETING : CLOSING, reason, 20);
    }

    private static void parametersOfSideOne() throws Exception {
        Forge forge = new Forge();
        byte[] first = Keys.join(Keys.bytes(0, 8), forge.firstName);
        byte[] own = Keys.join(Keys.bytes(15, 8), forge.name1);
        toldBySideOne("both names alone", 0, own, first);
        toldBySideOne("no first name", 8, own);
        toldBySideOne("no own name", 8, first);
        toldBySideOne("nothing", 8);
        toldBySideOne("another first name", 8, own, Keys.bytes(0, 8), forge.name0);
        toldBySideOne("a first name that is longer", 8, own, Keys.bytes(0, 9), forge.firstName, PING);
        toldBySideOne("another own name", 8, first, Keys.bytes(15, 8), forge.name0);
        toldBySideOne("an own name that is shorter", 8, first, Keys.bytes(15, 7), Arrays.copyOf(forge.name1, 7));
        toldBySideOne("the own name twice", 8, first, own, own);
        toldBySideOne("2 and 16", 0, first, own, Keys.bytes(2, 16), new byte[16], Keys.bytes(16, 20), new byte[20]);
        toldBySideOne("2 of 15 bytes", 8, first, own, Keys.bytes(2, 15), new byte[15]);
        toldBySideOne("16 of 21 bytes", 8, first, own, Keys.bytes(16, 21), new byte[21]);
        toldBySideOne("13 of 41 bytes", 0, first, own, Keys.bytes(13, 41), new byte[41]);
        toldBySideOne("13 of 61 bytes", 0, first, own, Keys.bytes(13, 61), new byte[61]);
        toldBySideOne("13 of 40 bytes", 8, first, own, Keys.bytes(13, 40), new byte[40]);
        toldBySideOne("13 of 62 bytes", 8, first, own, Keys.bytes(13, 62), new byte[62]);
        toldBySideOne("3 of 1199", 8, first, own, Keys.bytes(3, 2, 0x44, 0xaf));
        toldBySideOne("3 of 1200 in more bytes", 0, first, own, Keys.bytes(3, 4, 0x80, 0, 4, 0xb0));
        toldBySideOne("10 of 20", 0, first, own, Keys.bytes(10, 1, 20));
        toldBySideOne("10 of 21", 8, first, own, Keys.bytes(10, 1, 21));
        toldBySideOne("14 of 1", 8, first, own, Keys.bytes(14, 1, 1));
        toldBySideOne("8, the most", 0, first, own, Keys.bytes(8, 8, 0xd0, 0, 0, 0, 0, 0, 0, 0));
        toldBySideOne("8, one more", 8, first, own, Keys.bytes(8, 8, 0xd0, 0, 0, 0, 0, 0, 0, 1));
        toldBySideOne("300 bytes", 0, first, own, Keys.bytes(33, 0x41, 0x15), new byte[277]);

        byte[] most = Keys.bytes(4, 8, 255, 255, 255, 255, 255, 255, 255, 255, 7, 8, 255, 255, 255, 255, 255, 255, 255, 255,
            9, 1, 63);
        Forge wide = new Forge(Keys.NONE, Keys.join(first, own, most));
        byte[] answers = wide.packet(0, 1, 0, 0, Forge.crypto(0, wide.answer));
        TransportPair x = answered();
        Forge.comes(x, 1, Keys.join(answers, wide.packet(1, 1, 0, 1200 - answers.length, Forge.crypto(0, wide.granted))));
        check.due("the limit of all data", x.streams(0, 1), 4611686018427387903L);
        check.due("how many of BOTH ways", x.streams(0, 7), 0);
        check.due("how many of ONE way", x.streams(0, 8), 63);
        check.due("one of ONE way", x.open(0, false), 2);
        check.due("its limit", x.stream(0, 2, 3), 4611686018427387903L);
    }

    private static void frames() throws Exception {
        Forge forge = new Forge();
        state("PADDING alone", asked(forge, Keys.NONE), 1, GREETING, 0, 1);
        TransportPair x = asked(forge, PING);
        check.due("PING is pending", x.space(1, 0, 7), 1);
        x = asked(forge, Keys.bytes(0));
        check.due("PADDING is not", x.space(1, 0, 7), 0);
        check.due("but it has come", x.space(1, 0, 6), 1);
        state("STREAM", asked(forge, Keys.bytes(8, 0)), 1, CLOSING, 10, 1);
        state("DONE", asked(forge, Keys.bytes(30)), 1, CLOSING, 10, 1);
        state("CLOSE of an application", asked(forge, Keys.bytes(29, 5, 0)), 1, CLOSING, 10, 1);
        state("no such kind", asked(forge, Keys.bytes(31)), 1, CLOSING, 7, 1);
        state("no such kind, of two bytes", asked(forge, Keys.bytes(0x40, 1)), 1, CLOSING, 7, 1);
        state("data that is cut", asked(forge, Keys.bytes(6, 0, 0x48, 0)), 1, CLOSING, 7, 1);
        state("an offset that is no number", asked(forge, Keys.bytes(6, 255, 255, 255, 255, 255, 255, 255, 255, 1, 0)), 1, CLOSING, 7, 1);
        state("ACK of what was not sent", asked(forge, Keys.bytes(2, 0, 0, 0, 0)), 1, CLOSING, 10, 1);
        state("ACK below 0", asked(forge, Keys.bytes(2, 0, 0, 0, 1)), 1, CLOSING, 7, 1);
        state("CLOSE", asked(forge, Keys.bytes(28, 0x4f, 0xff, 6, 2, 65, 66)), 1, DRAINING, 14095, 1);
        state("a code above 9999", asked(forge, Keys.bytes(28, 0x80, 1, 0, 0, 0, 0)), 1, DRAINING, 19999, 1);
        state("CLOSE, and what is wrong behind it", asked(forge, Keys.bytes(28, 1, 0, 0, 31)), 1, DRAINING, 10001, 1);
        x = answered();
        int sentAt = x.at(0, 1, -2);
        Forge.comes(x, 1, forge.packet(0, 1, 0, 1200, Keys.bytes(3, 2, 9, 0, 2, 1, 2, 3, 1)));
        state("ACK with counts", x, 0, GREETING, 0, 2);
        check.due("acknowledged", x.space(0, 0, 1), 2);
        check.due("nothing is out", x.space(0, 0, 4), 0);
        check.due("a sample", x.book(0, 7), x.book(0, 0) - sentAt);
    }

    private static void heads() throws Exception {
        Forge forge = new Forge();
        byte[] whole = Forge.crypto(0, forge.hello);
        for (int bits : new int[] {4, 8, 12}) {
            TransportPair x = asked();
            Forge.comes(x, 0, forge.named(0, 0, forge.firstName, forge.name0, bits + 1, 0, 1200, whole));
            state("bits " + bits + " of the first byte", x, 1, CLOSING, 10, 1);
        }
        TransportPair x = asked();
        byte[] empty = forge.named(0, 0, forge.firstName, forge.name0, 3, 0, 0, Keys.NONE);
        Forge.comes(x, 0, Keys.join(empty, forge.packet(0, 0, 1, 1200 - empty.length, whole)));
        state("a packet without frames", x, 1, CLOSING, 10, 1);
        x = asked();
        byte[] ping = forge.packet(0, 0, 0, 50, PING);
        Forge.comes(x, 0, Keys.join(ping, forge.packet(0, 0, 1, 1200 - ping.length, whole)));
        state("two packets", x, 1, GREETING, 0, 20);
        check.due("both are pending", x.space(1, 0, 7), 2);
        x = asked();
        Forge.comes(x, 0, Keys.join(ping, forge.packet(0, 0, 0, 1200 - ping.length, whole)));
        state("the second one is old", x, 1, GREETING, 0, 1);
        x = asked();
        byte[] spoiled = Forge.spoiled(ping, 30, 31);
        Forge.comes(x, 0, Keys.join(spoiled, forge.packet(0, 0, 1, 1200 - ping.length, whole)));
        state("the first one does not open", x, 1, GREETING, 0, 20);
        check.due("it is not there", x.space(1, 0, 7), 1);
        x = asked();
        Forge.comes(x, 0, Keys.join(ping, Keys.bytes(0), forge.packet(0, 0, 1, 1199 - ping.length, whole)));
        state("what is wrong, and behind it", x, 1, GREETING, 0, 1);
        x = asked();
        byte[] other = forge.named(0, 0, forge.name1, forge.name0, 1, 1, 1200 - ping.length, whole);
        Forge.comes(x, 0, Keys.join(ping, other));
        state("another name TO", x, 1, GREETING, 0, 1);
    }

    /** Numbers grow from the greatest that has come, whatever their bytes. */
    private static void numbers() throws Exception {
        Forge forge = new Forge();
        long[] rising = {200, 128, 328, 65535, 70000, 4000000, 20000000, 2000000000L, 4100000000L, 6000000000L};
        TransportPair x = asked();
        for (long n : rising) {
            Forge.comes(x, 0, forge.named(0, 0, forge.firstName, forge.name0, 3, n, 1200, PING));
        }
        check.due("all have come", x.space(1, 0, 7), rising.length);
        check.due("with gaps", x.space(1, 0, 6), rising.length);
        Forge.comes(x, 0, forge.named(0, 0, forge.firstName, forge.name0, 3, 128, 1200, PING));
        check.due("too far below", x.space(1, 0, 7), rising.length);
        Forge.comes(x, 0, forge.named(0, 0, forge.firstName, forge.name0, 0, 6000000001L + 128, 1200, PING));
        check.due("of two, the greater one", x.space(1, 0, 7), rising.length + 1);
        Forge.comes(x, 0, forge.named(0, 0, forge.firstName, forge.name0, 0, 6000000130L + 129, 1200, PING));
        check.due("one byte is too few", x.space(1, 0, 7), rising.length + 1);
    }

    private static void namesAndSizes() throws Exception {
        Forge forge = new Forge();
        byte[] whole = Forge.crypto(0, forge.hello);
        TransportPair x = asked();
        Forge.comes(x, 0, forge.named(0, 0, forge.firstName, Arrays.copyOf(forge.name0, 7), 1, 0, 1200, whole));
        state("a name BY of 7 bytes", x, 1, 0, 0, 0);
        check.due("its bytes came", x.look(1, 6), 1200);
        x.deliver(0, 0);
        state("the right one", x, 1, GREETING, 0, 20);
        Forge other = new Forge();
        x = asked();
        Forge.comes(x, 0, other.named(0, 0, other.firstName, other.name1, 1, 0, 1200, whole));
        state("15 is not the name BY", x, 1, CLOSING, 8, 20);
    }

    private static void lastLevel() throws Exception {
        Forge forge = new Forge();
        for (int bits : new int[] {8, 16, 24}) {
            TransportPair x = Pairs.open(1);
            x.flow(0);
            Pairs.tape(x, 1, 1, 1, 1);
            x.raw(0);
            x.tick(1);
            int room = x.at(0, 0, -1) - 9 - 2 - 16;
            Forge.comes(x, 0, forge.shortPacket(0, bits + 1, 500, new byte[room]));
            state("bits " + bits + " of a short one", x, 1, CLOSING, 10, 0);
        }
        TransportPair x = Pairs.open(1);
        x.flow(0);
        Pairs.tape(x, 1, 1, 1, 1);
        x.raw(0);
        x.tick(1);
        int room = x.at(0, 0, -1) - 9 - 2 - 16;
        Forge.comes(x, 0, forge.shortPacket(0, 33, 500, new byte[room]));
        state("the bit 32 of a short one", x, 1, OPEN, 0, 0);
        Forge.comes(x, 0, forge.shortPacket(0, 1, 501, Arrays.copyOf(Keys.bytes(6, 0, 0), room)));
        state("CRYPTO with nothing", x, 1, OPEN, 0, 0);
        Forge.comes(x, 0, forge.shortPacket(0, 1, 502, Keys.bytes(6, 0, 1, 1)));
        state("CRYPTO with a byte", x, 1, CLOSING, 266, 0);
    }
}
