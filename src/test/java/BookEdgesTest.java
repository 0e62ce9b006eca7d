/** THE BOOK of a side at its edges: samples, losses, the window, probes, and what came (promises 22, 26 and 27). */
public final class BookEdgesTest {
    private static final Check check = new Check();

    public static void main(String[] args) throws Exception {
        inFlight();
        filling();
        belowTheWindow();
        probesGoBesideTheWindow();
        samplesWithDelay();
        delaysAreAtMostTwentyFive();
        noDelayInTheGreeting();
        sampleOfTheGreatest();
        leastIsTheLesserOne();
        firstSampleOfNothing();
        acknowledgedIsSent();
        nothingNew();
        lostByNumber();
        lostByTime();
        lossTimeOfTheEarliest();
        sentAfterRecovery();
        windowIsHalved();
        growsAtTheThreshold();
        longSilence();
        longSilenceFromTheFirstNumber();
        silenceBehindTheFirstSample();
        lossTimesOfTwoSpaces();
        noTimesInADiscardedSpace();
        backoffIsAtMostTen();
        anxious();
        anxiousWithBytesOut();
        spaceTwoAheadOfConfirmed();
        leastSpaceFirst();
        discarded();
        forgotten();
        acknowledgedInNoSpace();
        earliestOfTwo();
        doneLost();
        ranges();
        rangesGrowTogether();
        dueInTheLastSpace();
        dueByTheFirstNumber();
        delayOfAnAck();
        check.end();
    }

    private static byte[] ack(long greatest, long delay, long first) {
        return Forge.frame(2, greatest, delay, 0, first);
    }

    /** Side 0 sends raw bytes that never come: its packet's number. */
    private static long ping(TransportPair x, int size) {
        Pairs.tape(x, Pairs.row(size, 1));
        x.raw(0);
        x.tick(1);
        Pairs.clear(x);
        return x.space(0, 2, 0) - 1;
    }

    /** Side 1 sends raw bytes, which come at once, and nothing else does. */
    private static void told(TransportPair x, byte[] bytes) {
        Pairs.clear(x);
        Pairs.tape(x, bytes);
        x.raw(1);
        x.tick(1);
        x.deliver(1, 0);
        Pairs.clear(x);
    }

    /** A still pair whose way is some 40 ticks long, with nothing out. */
    private static TransportPair slow() {
        TransportPair x = Pairs.open(20);
        x.flow(0);
        Pairs.clear(x);
        told(x, ack(x.space(0, 2, 0) - 1, 0, x.space(0, 2, 0) - 1));
        check.due("nothing is out", x.space(0, 2, 4), 0);
        check.isTrue("LIMIT", x.book(0, 10) > 40);
        return x;
    }

    /** "IN FLIGHT is the size of all counted ones that are out". */
    private static void inFlight() {
        TransportPair x = Pairs.still();
        check.due("an ACK alone is not counted", x.book(0, 1) * 10 + x.space(0, 2, 4), 1);
        for (int size = 1; size <= 3; size++) {
            int before = x.book(0, 1);
            ping(x, size);
            check.due("raw bytes, " + size, x.book(0, 1) - before, 9 + 2 + Math.max(size, 2) + 16);
        }
        check.due("out", x.space(0, 2, 4), 4);
        check.due("eliciting", x.space(0, 2, 5), 3);
        told(x, ack(3, 0, 3));
        check.due("none is", x.book(0, 1) + x.space(0, 2, 4), 0);
    }

    /** "FILLING: with it, IN FLIGHT was more than WINDOW - 1200." */
    private static void filling() {
        for (int more = -1; more <= 1; more++) {
            TransportPair x = Pairs.still();
            for (int i = 0; i < 10; i++) {
                ping(x, 1000);
            }
            int size = 530 + more;
            long last = ping(x, size - 27);
            check.due("in flight", x.book(0, 1), 10800 + more);
            told(x, ack(last, 0, last));
            check.due("WINDOW, with " + more + " more than WINDOW - 1200", x.book(0, 2), more > 0 ? 12000 + size : 12000);
        }
    }

    private static TransportPair withInFlight(int bytes) {
        TransportPair x = Pairs.still();
        x.open(0, true);
        for (int i = 0; i < 11; i++) {
            ping(x, 1000);
        }
        ping(x, bytes - x.book(0, 1) - 27);
        check.due("in flight", x.book(0, 1), bytes);
        Pairs.write(x, 0, 0, Pairs.row(2000, 0));
        return x;
    }

    /** "or in flight is below WINDOW". */
    private static void belowTheWindow() {
        for (int more = -1; more <= 1; more++) {
            TransportPair x = withInFlight(12000 + more);
            x.tick(1);
            check.due("sent with " + (12000 + more) + " in flight", x.stream(0, 0, 2), more < 0 ? 1167 : 0);
            check.due("datagrams", x.line(0, 0), more < 0 ? 1 : 0);
            told(x, Keys.bytes(1, 1));
            told(x, Keys.bytes(1, 1));
            x.tick(1);
            check.due("an ACK needs no room in it", x.line(0, 0), 1);
            check.due("alone", x.at(0, 0, -1), 9 + 2 + 5 + 16);
        }
    }

    /** "if probes are due in the space, or ..": two probes carry what there is. */
    private static void probesGoBesideTheWindow() {
        TransportPair x = withInFlight(12000);
        long when = x.space(0, 2, 3);
        x.tick((int) when - x.book(0, 0) - 1);
        check.due("ahead of the probe time", x.stream(0, 0, 2), 0);
        x.tick(1);
        check.due("two datagrams", x.line(0, 0), 2);
        check.due("with what there is", x.stream(0, 0, 2), 2000);
        check.due("no probe is due any more", x.look(0, 8), 0);
    }

    /** A sample of so many ticks; side 1 tells a delay. */
    private static void sample(TransportPair x, int r, long delay) {
        if (r == 0) {
            Pairs.tape(x, 1, 1);
            x.raw(0);
            told(x, ack(x.space(0, 2, 0), delay, 0));
            return;
        }
        long n = ping(x, 2);
        if (r > 1) {
            x.tick(r - 1);
        }
        told(x, ack(n, delay, 0));
    }

    private static void sampled(String what, TransportPair x, int r, long delay, int counted) {
        int smooth = x.book(0, 5);
        int vary = x.book(0, 6);
        sample(x, r, delay);
        check.due(what + ": LATEST", x.book(0, 7), r);
        check.due(what + ": VARY", x.book(0, 6), vary + Math.abs(smooth / 8 - counted) - vary / 4);
        check.due(what + ": SMOOTH", x.book(0, 5), smooth + counted - smooth / 8);
    }

    /** "if r is at least LEAST + d, r less d counts as r from here on". */
    private static void samplesWithDelay() {
        for (int d = 0; d < 6; d++) {
            for (int r = d; r <= d + 2; r++) {
                TransportPair x = Pairs.still();
                check.due("LEAST", x.book(0, 8), 1);
                int least = Math.min(r, 1);
                sampled("r " + r + ", d " + d, x, r, d, r >= least + d ? r - d : r);
                check.due("LEAST then", x.book(0, 8), least);
            }
        }
    }

    /** "with the delay (at most 25 ..)"; "a greater one counts as 100000". */
    private static void delaysAreAtMostTwentyFive() {
        long[] delays = {24, 25, 26, 99999, 100000, 100001, 4611686018427387903L};
        for (long d : delays) {
            TransportPair x = Pairs.still();
            sampled("a delay of " + d, x, 26, d, d == 24 ? 2 : 1);
            TransportPair y = Pairs.still();
            sampled("too little for a delay of " + d, y, 24, d, 24);
        }
    }

    /** ".. 0 in the spaces 0 and 1". */
    private static void noDelayInTheGreeting() throws Exception {
        Forge forge = new Forge();
        for (int level = 0; level < 2; level++) {
            TransportPair x = Pairs.begun();
            x.tick(310);
            x.deliver(0, 0);
            x.tick(1);
            if (level == 1) {
                byte[] answers = forge.packet(0, 1, 0, 0, Forge.crypto(0, forge.answer));
                Forge.comes(x, 1, Keys.join(answers, forge.packet(1, 1, 0, 1200 - answers.length, Keys.bytes(1))));
                x.tick(1);
                x.tick(600);
            }
            Forge.comes(x, 1, forge.packet(level, 1, 1, 1200, ack(1, 0, 0)));
            int smooth = x.book(0, 5);
            int vary = x.book(0, 6);
            int least = x.book(0, 8);
            check.due("the first sample", smooth, 8 * least);
            x.tick(30);
            Forge.comes(x, 1, forge.packet(level, 1, 2, 1200, ack(2, 25, 0)));
            check.due("30 more", x.book(0, 7), least + 30);
            check.due("no delay is taken off in VARY", x.book(0, 6), vary + 30 - vary / 4);
            check.due("nor in SMOOTH", x.book(0, 5), smooth + 30);
        }
    }

    /** "if its greatest is new, and one that is new is eliciting". */
    private static void sampleOfTheGreatest() {
        TransportPair x = slow();
        long a = ping(x, 2);
        long b = ping(x, 2);
        told(x, ack(b, 0, 0));
        check.due("a sample of the greatest", x.book(0, 7), 1);
        int smooth = x.book(0, 5);
        x.tick(5);
        told(x, ack(b, 0, 1));
        check.due("acknowledged", x.space(0, 2, 4), 0);
        check.due("the greatest is not new: none", x.book(0, 7) * 10000 + x.book(0, 5), 10000 + smooth);
        check.due("a " + a, x.space(0, 2, 1), b);
        TransportPair y = Pairs.still();
        long c = ping(y, 2);
        told(y, Keys.bytes(1, 1));
        told(y, Keys.bytes(1, 1));
        y.tick(4);
        check.due("an ACK alone", y.space(0, 2, 0) - 1, c + 1);
        told(y, ack(c + 1, 0, 1));
        check.due("the greatest is not eliciting, but another one: since the greatest was sent", y.book(0, 7), 4);
    }

    /** "LEAST the lesser one of itself and r". */
    private static void leastIsTheLesserOne() {
        TransportPair x = slow();
        int least = x.book(0, 8);
        sample(x, least + 1, 0);
        check.due("one more", x.book(0, 8), least);
        sample(x, least, 0);
        check.due("as many", x.book(0, 8), least);
        sample(x, least - 1, 0);
        check.due("one less", x.book(0, 8), least - 1);
        sample(x, 0, 0);
        check.due("0", x.book(0, 8), 0);
        sample(x, 2, 0);
        check.due("2 behind 0", x.book(0, 8), 0);
    }

    /** "(VARY, at least 1)"; "LIMIT is .., at least 1": a first sample of 0. */
    private static void firstSampleOfNothing() throws Exception {
        Forge forge = new Forge();
        TransportPair x = Pairs.begun();
        x.tick(300);
        x.deliver(0, 0);
        x.tick(1);
        check.due("probes at 301", x.space(0, 0, 0), 3);
        Forge.comes(x, 1, forge.packet(0, 1, 0, 1200, ack(2, 0, 0)));
        int[] book = {301, 1200, 6000, 6000, 301, 0, 0, 0, 0, 0, 1};
        for (int what = 0; what < book.length; what++) {
            check.due("a first sample of 0: book " + what, x.book(0, what), book[what]);
        }
        check.due("PATIENCE", x.space(0, 0, 8), 1);
        check.due("one is out, of the same tick", x.space(0, 0, 4), 1);
        check.due("LOSS TIME", x.space(0, 0, 2), 302);
        x.tick(1);
        check.due("lost by it, and HELLO goes again", x.space(0, 0, 0) * 10 + x.space(0, 0, 4), 41);
        check.due("no LOSS TIME", x.space(0, 0, 2), -1);
        TransportPair y = Pairs.still();
        for (int i = 0; i < 40; i++) {
            sample(y, 0, 0);
        }
        check.due("VARY falls to 3, of which a quarter is 0", y.book(0, 6), 3);
        check.due("SMOOTH to 7", y.book(0, 5), 7);
        check.due("PATIENCE", y.space(0, 2, 8), 0 + 3 + 25);
        check.due("LIMIT", y.book(0, 10), 1);
    }

    /** "If its greatest is not yet sent, it is wrong." */
    private static void acknowledgedIsSent() {
        for (int more = -1; more <= 1; more++) {
            TransportPair x = Pairs.still();
            long n = ping(x, 2);
            told(x, ack(n + more, 0, 0));
            check.due("ACK of " + more + " more than was sent", x.look(0, 1), more > 0 ? 10 : 0);
            check.due("GREATEST ACKNOWLEDGED", x.space(0, 2, 1), more > 0 ? -1 : n + more);
            if (more == 0) {
                told(x, ack(n - 1, 0, 0));
                check.due("a lesser one does not change it", x.space(0, 2, 1), n);
            }
        }
        TransportPair y = Pairs.still();
        told(y, ack(4611686018427387903L, 0, 0));
        check.due("the most", y.look(0, 1), 10);
    }

    /** "NEW are those out that it has. If there are some: ..": otherwise BACKOFF stays, and nothing is told again. */
    private static void nothingNew() {
        TransportPair x = slow();
        x.open(0, true);
        Pairs.write(x, 0, 0, Pairs.row(64, 0));
        x.tick(1);
        long lost = x.space(0, 2, 0) - 1;
        ping(x, 2);
        ping(x, 2);
        long greatest = ping(x, 2);
        told(x, ack(greatest, 0, 0));
        check.due("by its number", greatest - lost, 3);
        check.due("LOST", x.stream(0, 0, 5), 64);
        x.tick(1);
        Pairs.clear(x);
        check.due("OUT again", x.stream(0, 0, 5), 0);
        told(x, ack(greatest, 0, 0));
        check.due("not LOST again by what tells nothing new", x.stream(0, 0, 5), 0);
        x.tick((int) x.space(0, 2, 3) - x.book(0, 0));
        Pairs.clear(x);
        int[] before = {x.book(0, 2), x.book(0, 5), x.book(0, 6), x.book(0, 7)};
        long out = x.space(0, 2, 5);
        check.due("BACKOFF", x.book(0, 9), 1);
        told(x, ack(greatest, 0, 0));
        check.due("BACKOFF stays", x.book(0, 9), 1);
        check.due("those out stay out", x.space(0, 2, 5), out);
        check.due("WINDOW", x.book(0, 2), before[0]);
        check.due("no sample", x.book(0, 5) + x.book(0, 6) + x.book(0, 7), before[1] + before[2] + before[3]);
        told(x, ack(x.space(0, 2, 0) - 1, 0, 0));
        check.due("with a new one it is 0", x.book(0, 9), 0);
    }

    /** "lost, if its number is at most that - 3". */
    private static void lostByNumber() {
        TransportPair x = slow();
        long n = ping(x, 2);
        for (int i = 1; i <= 4; i++) {
            check.due("number", ping(x, 2), n + i);
        }
        int sentAt = x.book(0, 0) - 3;
        told(x, ack(n + 3, 0, 0));
        check.due("out: but the one that is 3 below, and the acknowledged one", x.space(0, 2, 4), 3);
        check.due("LOSS TIME of the next one", x.space(0, 2, 2), sentAt + x.book(0, 10));
        told(x, ack(n + 4, 0, 0));
        check.due("one more", x.space(0, 2, 4), 1);
        check.due("LOSS TIME of the next one", x.space(0, 2, 2), sentAt + 1 + x.book(0, 10));
    }

    /** "or it was sent LIMIT ticks ago or earlier". */
    private static void lostByTime() {
        int lost = 0;
        int kept = 0;
        for (int gap = 1; gap <= 70; gap++) {
            TransportPair x = slow();
            ping(x, 2);
            int sentAt = x.book(0, 0);
            x.tick(gap);
            long last = ping(x, 2);
            told(x, ack(last, 0, 0));
            int ago = x.book(0, 0) - sentAt;
            boolean isLost = ago >= x.book(0, 10);
            lost += isLost ? 1 : 0;
            kept += ago == x.book(0, 10) - 1 ? 1 : 0;
            check.due("sent " + ago + " ago, LIMIT " + x.book(0, 10), x.space(0, 2, 4), isLost ? 0 : 1);
            check.due("LOSS TIME", x.space(0, 2, 2), isLost ? -1 : sentAt + x.book(0, 10));
            check.due("RECOVERY", x.book(0, 4), isLost ? x.book(0, 0) : -1);
        }
        check.isTrue("both edges were met", lost > 0 && kept > 0);
    }

    /** "the earliest of their times + LIMIT"; "If some LOSS TIME is not above it". */
    private static void lossTimeOfTheEarliest() {
        TransportPair x = slow();
        ping(x, 2);
        int first = x.book(0, 0);
        x.tick(2);
        ping(x, 2);
        long last = ping(x, 2);
        told(x, ack(last, 0, 0));
        int limit = x.book(0, 10);
        check.due("of the first", x.space(0, 2, 2), first + limit);
        x.tick(first + limit - 1 - x.book(0, 0));
        check.due("not yet", x.space(0, 2, 4), 2);
        x.tick(1);
        check.due("the first is lost", x.space(0, 2, 4), 1);
        check.due("then of the next", x.space(0, 2, 2), first + 3 + limit);
        x.tick(2);
        check.due("not yet", x.space(0, 2, 4), 1);
        x.tick(1);
        check.due("none is left", x.space(0, 2, 4), 0);
        check.due("no LOSS TIME", x.space(0, 2, 2), -1);
    }

    /** "if one of the counted was sent after RECOVERY". */
    private static void sentAfterRecovery() {
        TransportPair x = slow();
        long n = ping(x, 2);
        for (int i = 1; i < 4; i++) {
            ping(x, 2);
        }
        Pairs.tape(x, 1, 1);
        x.raw(0);
        told(x, ack(n + 3, 0, 0));
        int recovery = x.book(0, 0);
        check.due("RECOVERY is now", x.book(0, 4), recovery);
        check.due("WINDOW", x.book(0, 2), 6000);
        for (int i = 5; i < 9; i++) {
            check.due("number", ping(x, 2), n + i);
        }
        told(x, ack(n + 7, 0, 0));
        check.due("those sent up to RECOVERY are lost", x.space(0, 2, 4), 3);
        check.due("WINDOW stays", x.book(0, 2), 6000);
        check.due("RECOVERY stays", x.book(0, 4), recovery);
        told(x, ack(n + 8, 0, 0));
        check.due("one that was sent a tick behind RECOVERY is lost", x.space(0, 2, 4), 1);
        check.due("WINDOW is halved", x.book(0, 2), 3000);
        check.due("RECOVERY is now", x.book(0, 4), x.book(0, 0));
    }

    /** "THRESHOLD is WINDOW / 2, WINDOW is that, at least 2400". */
    private static void windowIsHalved() {
        TransportPair x = slow();
        int[] threshold = {6000, 3000, 1500, 1200};
        int[] window = {6000, 3000, 2400, 2400};
        for (int i = 0; i < 4; i++) {
            for (int k = 0; k < 3; k++) {
                ping(x, 2);
            }
            long last = ping(x, 2);
            told(x, ack(last, 0, 2));
            check.due("THRESHOLD " + i, x.book(0, 3), threshold[i]);
            check.due("WINDOW " + i, x.book(0, 2), window[i]);
        }
    }

    /** Packets of which the last one is filling, and of a size, come. */
    private static void grow(TransportPair x, int size) {
        int rest = x.book(0, 2) - 1199 - size;
        long first = -1;
        long last = -1;
        while (rest > 0) {
            int part = Math.min(Math.max(rest, 29), 1027);
            last = ping(x, part - 27);
            first = first < 0 ? last : first;
            rest -= part;
        }
        last = ping(x, size - 27);
        told(x, ack(last, 0, first < 0 ? 0 : last - first));
    }

    /** "below THRESHOLD by its size; else by 1200 * size / WINDOW". */
    private static void growsAtTheThreshold() {
        for (int more = -1; more <= 1; more++) {
            TransportPair x = silent(true);
            check.due("WINDOW", x.book(0, 2), 2400);
            check.due("THRESHOLD", x.book(0, 3), 6000);
            int want = 6000 + more;
            grow(x, 1000);
            check.due("by its size", x.book(0, 2), 3400);
            grow(x, 1000);
            grow(x, 1000);
            grow(x, want - 5400);
            check.due("up to THRESHOLD, and " + more, x.book(0, 2), want);
            grow(x, 1000);
            check.due("then", x.book(0, 2), more < 0 ? want + 1000 : want + 1200 * 1000 / want);
        }
        TransportPair y = Pairs.still();
        ping(y, 2);
        long last = ping(y, 2);
        told(y, ack(last, 0, 0));
        check.due("WINDOW is THRESHOLD", y.book(0, 2) * 10000 + y.book(0, 3), 60006000);
        grow(y, 1027);
        check.due("else", y.book(0, 2), 6000 + 1200 * 1027 / 6000);
    }

    /** Three packets are lost, over 3 * PATIENCE and one tick, or over 3 * PATIENCE; perhaps one between them has come. */
    private static TransportPair silent(boolean isLong) {
        return silent(isLong, false);
    }

    private static TransportPair silent(boolean isLong, boolean between) {
        TransportPair dry = Pairs.still();
        told(dry, ack(0, 0, 0));
        ping(dry, 2);
        sample(dry, 1, 0);
        int ticks = 3 * (int) dry.space(0, 2, 8) + (isLong ? 1 : 0);
        TransportPair x = Pairs.still();
        told(x, ack(0, 0, 0));
        long first = ping(x, 2);
        x.tick(ticks / 2);
        long middle = ping(x, 2);
        x.tick(ticks - ticks / 2 - 2);
        long last = ping(x, 2);
        check.isTrue("probes are between them", middle > first + 1 && last > middle);
        long greatest = ping(x, 2);
        told(x, between ? Forge.frame(2, greatest, 0, 1, 0, greatest - middle - 2, 0) : ack(greatest, 0, 0));
        check.due("PATIENCE", x.space(0, 2, 8), dry.space(0, 2, 8));
        check.due("nothing below it is out", x.space(0, 2, 4), x.space(0, 2, 0) - 1 - greatest);
        return x;
    }

    /** "if L was sent more than 3 * PATIENCE .. ticks after F, and none between them in the space was acknowledged". */
    private static void longSilence() {
        TransportPair x = silent(true);
        check.due("one tick more", x.book(0, 2), 2400);
        check.due("RECOVERY none", x.book(0, 4), -1);
        check.due("THRESHOLD", x.book(0, 3), 6000);
        TransportPair y = silent(false);
        check.due("just 3 * PATIENCE", y.book(0, 2), 6000);
        check.due("RECOVERY", y.book(0, 4), y.book(0, 0));
        TransportPair z = silent(true, true);
        check.due("one between them has come", z.book(0, 2), 6000);
        check.due("RECOVERY", z.book(0, 4), z.book(0, 0));
    }

    /** Side 0 is OPEN, without a sample; DONE has come if it is confirmed. A datagram of 1200 lies on way 1. */
    private static TransportPair unsampled(Forge forge, boolean confirmed) throws Exception {
        TransportPair x = Pairs.begun();
        x.tick(1);
        x.deliver(0, 0);
        x.tick(1);
        byte[] answers = forge.packet(0, 1, 0, 0, Forge.crypto(0, forge.answer));
        Forge.comes(x, 1, Keys.join(answers, forge.packet(1, 1, 0, 1200 - answers.length, Forge.crypto(0, forge.granted))));
        if (confirmed) {
            x.tick(1);
            comesLast(x, forge, 0, Keys.bytes(30));
            check.due("both spaces are discarded", x.space(0, 0, 9) + x.space(0, 1, 9), 2);
        }
        check.due("OPEN, no sample", x.look(0, 0) * 10000 + x.book(0, 5), 20800);
        return x;
    }

    /** A packet of space 2 by side 1, with a number and frames. */
    private static void comesLast(TransportPair x, Forge forge, long number, byte[] frames) throws Exception {
        Forge.comes(x, 1, forge.shortPacket(1, 3, number, java.util.Arrays.copyOf(frames, 1200 - 9 - 4 - 16)));
    }

    /** "that were sent after the time of the first sample": not one of the same tick. */
    private static void silenceBehindTheFirstSample() throws Exception {
        Forge forge = new Forge();
        for (int more = 0; more < 2; more++) {
            TransportPair x = unsampled(forge, true);
            x.tick(1);
            x.open(0, true);
            Pairs.write(x, 0, 0, Pairs.row(5, 0));
            Pairs.tape(x, 1, 1);
            x.raw(0);
            x.tick(1);
            int first = x.book(0, 0);
            long n = x.space(0, 2, 0) - 2;
            comesLast(x, forge, 1, ack(n, 0, 0));
            check.due("a first sample of 0", x.book(0, 5) + x.book(0, 6) + x.book(0, 8), 0);
            check.due("one of the same tick is out", x.space(0, 2, 5), 1);
            Pairs.tape(x, 1, 1);
            x.raw(0);
            x.tick(1);
            x.tick(77 + more);
            Pairs.tape(x, 1, 1);
            x.raw(0);
            int before = (int) x.space(0, 2, 0);
            x.tick(1);
            check.due("3 * PATIENCE and 1 behind the first sample, or 2", x.book(0, 0) - first, 79 + more);
            check.isTrue("the last one", x.space(0, 2, 0) > before);
            Pairs.tape(x, 1, 1);
            x.raw(0);
            long greatest = x.space(0, 2, 0);
            x.tick(1);
            comesLast(x, forge, 2, ack(greatest, 0, 0));
            check.due("PATIENCE", x.space(0, 2, 8), 26);
            check.due("the one of the same tick does not count", x.book(0, 2), more == 0 ? 6000 : 2400);
        }
    }

    /** Side 0 has sent three packets in each of the spaces 1 and 2, in three ticks. */
    private static TransportPair threeInTwoSpaces(Forge forge) throws Exception {
        TransportPair x = unsampled(forge, false);
        for (int i = 1; i <= 3; i++) {
            Pairs.tape(x, 1, 1);
            x.raw(0);
            x.tick(1);
            Forge.comes(x, 1, forge.packet(1, 1, i, 1200, Keys.bytes(1)));
        }
        return x;
    }

    /** "DISCARDING a space: .. it has no times". */
    private static void noTimesInADiscardedSpace() throws Exception {
        Forge forge = new Forge();
        TransportPair x = threeInTwoSpaces(forge);
        x.tick(32);
        comesLast(x, forge, 0, ack(2, 0, 0));
        Forge.comes(x, 1, forge.packet(1, 1, 4, 1200, ack(2, 0, 0)));
        check.isTrue("LOSS TIME, PROBE TIME", x.space(0, 1, 2) > 0 && x.space(0, 1, 3) > 0);
        int inFlight = x.book(0, 1);
        comesLast(x, forge, 1, Keys.bytes(30));
        check.due("discarded", x.space(0, 1, 9), 1);
        check.due("no LOSS TIME", x.space(0, 1, 2), -1);
        check.due("no PROBE TIME", x.space(0, 1, 3), -1);
        check.due("what was counted there is not in flight", inFlight - x.book(0, 1), 25 + 2 + 5 + 39 + 16);
        check.due("GREATEST ACKNOWLEDGED stays", x.space(0, 1, 1) * 10 + x.space(0, 1, 0), 24);
        x.tick(2);
        check.due("the other space goes on: one is lost, one is out", x.space(0, 2, 2) * 10 + x.space(0, 2, 4), (x.book(0, 0) + 1) * 10 + 1);
    }

    /** "losses of the space with the earliest (the least such space) are looked for". */
    private static void lossTimesOfTwoSpaces() throws Exception {
        Forge forge = new Forge();
        TransportPair x = threeInTwoSpaces(forge);
        int start = x.book(0, 0) - 2;
        check.due("three in each space", x.space(0, 1, 4) * 10 + x.space(0, 2, 4), 33);
        x.tick(32);
        check.due("the last PING is told, too", x.space(0, 1, 4), 4);
        comesLast(x, forge, 0, ack(2, 0, 0));
        Forge.comes(x, 1, forge.packet(1, 1, 4, 1200, ack(2, 0, 0)));
        check.due("LIMIT", x.book(0, 10), 36);
        check.due("LOSS TIME of both", x.space(0, 1, 2) * 1000 + x.space(0, 2, 2), (start + 36) * 1001);
        x.tick(start + 35 - x.book(0, 0));
        long one = x.space(0, 1, 0);
        check.due("not yet", x.space(0, 2, 4), 2);
        x.tick(1);
        check.due("space 1 first: LOSS TIME of its next one", x.space(0, 1, 2), start + 37);
        check.due("space 2 waits", x.space(0, 2, 2) * 10 + x.space(0, 2, 4), (start + 36) * 10 + 2);
        check.isTrue("DONE goes again", x.space(0, 1, 0) > one);
        x.tick(1);
        check.due("then space 2, which is the earlier one", x.space(0, 2, 2) * 10 + x.space(0, 2, 4), -10);
        check.due("space 1 waits", x.space(0, 1, 2), start + 37);
        x.tick(1);
        check.due("then space 1 again", x.space(0, 1, 2), -1);
    }

    /** The first one that is lost may have the number 0: DONE of side 1. */
    private static void longSilenceFromTheFirstNumber() {
        int edges = 0;
        for (int ticks = 60; ticks <= 110; ticks++) {
            TransportPair x = Pairs.begun();
            for (int i = 0; i < 4; i++) {
                x.tick(1);
                if (x.line(i % 2, 0) > 0) {
                    x.deliver(i % 2, 0);
                }
                if (x.look(1, 0) == 2) {
                    break;
                }
            }
            check.due("OPEN", x.look(1, 0), 2);
            Pairs.clear(x);
            x.tick(1);
            int first = x.book(1, 0);
            check.due("DONE is number 0", x.space(1, 2, 0), 1);
            x.tick(ticks - 1);
            Pairs.tape(x, 1, 1);
            x.raw(1);
            x.tick(1);
            int last = x.book(1, 0);
            Pairs.tape(x, 1, 1);
            x.raw(1);
            x.tick(1);
            long greatest = x.space(1, 2, 0) - 1;
            while (x.line(1, 0) > 0 && x.at(1, x.line(1, 0) - 1, -1) != 29) {
                greatest--;
                x.drop(1, x.line(1, 0) - 1);
            }
            Pairs.clear(x);
            Pairs.tape(x, ack(greatest, 0, 0));
            x.raw(0);
            x.tick(1);
            x.deliver(0, 0);
            int over = last - first - 3 * (int) x.space(1, 2, 8);
            edges += over == 0 || over == 1 ? 1 : 0;
            check.due(over + " ticks over 3 * PATIENCE", x.book(1, 2), over > 0 ? 2400 : 6000);
        }
        check.due("both edges were met", edges, 2);
    }

    /** "BACKOFF grows by 1, to 10 at most"; "PATIENCE * 2 to the BACKOFF". */
    private static void backoffIsAtMostTen() {
        TransportPair x = Pairs.still(Pairs.with(0, 1, 0, 1, 1, 0));
        ping(x, 2);
        int patience = (int) x.space(0, 2, 8);
        for (int i = 0; i <= 12; i++) {
            int since = x.book(0, 0);
            int backoff = Math.min(i, 10);
            check.due("BACKOFF " + i, x.book(0, 9), backoff);
            check.due("PROBE TIME " + i, x.space(0, 2, 3), since + (patience << backoff));
            for (int left = (patience << backoff) - 1; left > 0; left -= Math.min(left, 1000)) {
                x.tick(Math.min(left, 1000));
            }
            Pairs.clear(x);
            x.tick(1);
            check.due("two probes", x.line(0, 0), 2);
            Pairs.clear(x);
        }
        told(x, ack(x.space(0, 2, 0) - 1, 0, 0));
        check.due("BACKOFF is 0", x.book(0, 9), 0);
    }

    /** "the time of the latest packet sent in any (0 without one)". */
    private static void anxious() throws Exception {
        TransportPair x = Pairs.begun();
        check.due("0 without one", x.space(0, 0, 3), 300);
        check.due("not of the next space", x.space(0, 1, 3), -1);
        x.tick(1);
        check.due("an eliciting one is out", x.space(0, 0, 3), 301);
        Forge forge = new Forge();
        x.deliver(0, 0);
        x.tick(1);
        Forge.comes(x, 1, forge.packet(0, 1, 0, 1200, ack(0, 0, 0)));
        long patience = x.space(0, 0, 8);
        check.due("none is out: since the latest packet", x.space(0, 0, 3), 1 + patience);
        check.due("still not of the next space", x.space(0, 1, 3), -1);
        check.due("side 1 is not anxious", x.space(1, 2, 3), -1);
        x.tick((int) (1 + patience - 2));
        check.due("it is over: two probes", x.line(0, 0), 2);
        Forge.comes(x, 1, forge.packet(0, 1, 1, 1200, ack(2, 0, 2), Forge.crypto(0, forge.answer)));
        x.tick(1);
        check.due("nothing of space 1 yet", x.space(0, 1, 0), 0);
        byte[] answers = forge.packet(0, 1, 2, 50, Keys.bytes(1));
        Forge.comes(x, 1, Keys.join(answers, forge.packet(1, 1, 0, 1200 - answers.length, Keys.bytes(1))));
        x.tick(1);
        int sentAt = x.book(0, 0);
        check.due("ACKs in both spaces", x.space(0, 1, 0) * 10 + x.space(0, 0, 9), 11);
        check.due("the first space that is not discarded", x.space(0, 1, 3), sentAt + x.space(0, 1, 8));
        check.due("not space 0", x.space(0, 0, 3), -1);
    }

    /** "While the book is ANXIOUS and no eliciting one is out in any space": one of space 2 counts, too. */
    private static void anxiousWithBytesOut() throws Exception {
        Forge forge = new Forge();
        TransportPair x = unsampled(forge, false);
        x.open(0, true);
        Pairs.write(x, 0, 0, Pairs.row(5, 0));
        x.tick(1);
        int sentAt = x.book(0, 0);
        check.due("one is out in each space", x.space(0, 1, 5) * 10 + x.space(0, 2, 5), 11);
        Forge.comes(x, 1, forge.packet(1, 1, 1, 1200, ack(0, 0, 0)));
        check.due("in space 2 alone", x.space(0, 1, 5) * 10 + x.space(0, 2, 5), 1);
        check.due("no PROBE TIME in space 1", x.space(0, 1, 3), -1);
        check.due("nor in space 2, which is not confirmed", x.space(0, 2, 3), -1);
        comesLast(x, forge, 0, ack(0, 0, 0));
        check.due("none is out", x.space(0, 2, 5), 0);
        check.due("then space 1 has one", x.space(0, 1, 3), sentAt + x.space(0, 1, 8));
    }

    /** "Space 2 has none before it is confirmed." */
    private static void spaceTwoAheadOfConfirmed() {
        TransportPair x = Pairs.begun();
        x.tick(1);
        x.deliver(0, 0);
        x.tick(1);
        x.deliver(1, 0);
        x.open(0, true);
        Pairs.write(x, 0, 0, Pairs.row(5, 0));
        x.tick(1);
        check.due("out in space 2", x.space(0, 2, 5), 1);
        check.due("none yet", x.space(0, 2, 3), -1);
        check.due("PATIENCE without the delay", x.space(0, 2, 8), x.space(0, 1, 8));
        check.due("in space 1", x.space(0, 1, 3), 3 + x.space(0, 1, 8));
        x.deliver(0, 0);
        x.tick(1);
        x.deliver(1, 0);
        check.due("confirmed", x.look(0, 2), 1);
        check.due("PATIENCE with it", x.space(0, 2, 8), x.space(0, 1, 8) + 25);
        if (x.space(0, 2, 5) > 0) {
            check.due("then there is one", x.space(0, 2, 3), 3 + x.space(0, 2, 8));
        }
    }

    /** "2 + the space with the earliest (the least such)". */
    private static void leastSpaceFirst() {
        TransportPair x = Pairs.begun();
        x.tick(1);
        x.deliver(0, 0);
        x.tick(1);
        check.due("both at the same time", x.space(1, 0, 3), x.space(1, 1, 3));
        Pairs.clear(x);
        x.tick((int) x.space(1, 0, 3) - 2);
        check.due("space 0 was probed", x.space(1, 0, 0), 3);
        check.due("space 1 was not", x.space(1, 1, 0), 1);
        check.due("BACKOFF", x.book(1, 9), 1);
        check.due("then space 1 is the earlier one", x.space(1, 1, 3), 2 + 600);
        check.due("of both", x.space(1, 0, 3), 302 + 600);
    }

    /** "DISCARDING a space: .. nothing is out in it, it has no times .. what came is forgotten .. BACKOFF is 0." */
    private static void discarded() throws Exception {
        TransportPair x = Pairs.begun();
        x.tick(301);
        x.deliver(0, 0);
        x.tick(1);
        check.due("BACKOFF", x.book(0, 9), 1);
        check.due("in flight", x.book(0, 1), 3600);
        check.due("came nothing", x.space(0, 0, 6), 0);
        x.deliver(1, 0);
        check.due("one range", x.space(0, 0, 6), 1);
        check.due("pending", x.space(0, 0, 7), 1);
        long before = x.space(0, 0, 1);
        x.tick(1);
        long[] row = {4, before, -1, -1, 0, 0, 0, 0, x.space(0, 0, 8), 1, 0, 0};
        for (int what = 0; what < row.length; what++) {
            check.due("discarded: " + what, x.space(0, 0, what), row[what]);
        }
        check.due("in flight is what space 1 has", x.book(0, 1), 36 + 8 + 25 + 2 + 16);
        check.due("no probes are due", x.look(0, 8), 0);
        TransportPair y = Pairs.begun();
        y.tick(1);
        y.deliver(0, 0);
        y.tick(1);
        y.deliver(1, 0);
        Pairs.clear(y);
        y.tick(1);
        Pairs.clear(y);
        y.tick((int) y.space(0, 1, 3) - 3);
        check.due("probes in space 1", y.book(0, 9), 1);
        int inSpaceOne = (int) y.space(0, 1, 0);
        check.due("two", inSpaceOne, 3);
        check.due("space 0, discarded already, leaves BACKOFF", y.book(0, 9), 1);
    }

    /** ".. and what came is forgotten (no ranges, FLOOR 0, nothing pending); BACKOFF is 0." */
    private static void forgotten() throws Exception {
        Forge forge = new Forge();
        TransportPair x = Pairs.begun();
        x.tick(1);
        x.twice(0, 0);
        x.deliver(0, 0);
        x.tick(1);
        for (int n = 2; n <= 140; n += 2) {
            Forge.comes(x, 0, forge.packet(0, 0, n, 1200, Keys.bytes(1)));
        }
        check.due("64 ranges", x.space(1, 0, 6), 64);
        check.due("FLOOR", x.space(1, 0, 10), 13);
        check.due("pending", x.space(1, 0, 7), 70);
        Forge.comes(x, 0, forge.packet(1, 0, 0, 1200, Keys.bytes(1)));
        long[] row = {1, -1, -1, -1, 0, 0, 0, 0, 300, 1, 0, 0};
        for (int what = 0; what < row.length; what++) {
            check.due("forgotten: " + what, x.space(1, 0, what), row[what]);
        }
        TransportPair y = Pairs.begun();
        y.tick(300);
        y.deliver(0, 0);
        y.tick(1);
        check.due("BACKOFF of both", y.book(0, 9) * 10 + y.book(1, 9), 10);
        byte[] answers = forge.packet(0, 1, 0, 0, Forge.crypto(0, forge.answer));
        Forge.comes(y, 1, Keys.join(answers, forge.packet(1, 1, 0, 1200 - answers.length, Keys.bytes(1))));
        check.due("no acknowledgement", y.book(0, 9), 1);
        y.tick(1);
        check.due("space 0 is discarded, and BACKOFF is 0", y.space(0, 0, 9) * 10 + y.book(0, 9), 10);
    }

    /** "in a space that is there": an ACK behind what discards its space is nothing, a wrong one, too. */
    private static void acknowledgedInNoSpace() throws Exception {
        Forge forge = new Forge();
        for (int order = 0; order < 2; order++) {
            TransportPair x = Pairs.begun();
            x.tick(1);
            x.twice(0, 0);
            x.deliver(0, 0);
            x.tick(1);
            byte[] done = Forge.crypto(0, forge.done0);
            byte[] wrong = ack(50, 0, 0);
            Forge.comes(x, 0, forge.packet(1, 0, 0, 1200, order == 0 ? Keys.join(done, wrong) : Keys.join(wrong, done)));
            check.due("behind DONE, or ahead of it", x.look(1, 0) * 100 + x.look(1, 1), order == 0 ? 200 : 310);
        }
    }

    /** "Otherwise, if some PROBE TIME is not above it: .. the space with the earliest": space 1, though space 0 is due, too. */
    private static void earliestOfTwo() throws Exception {
        Forge forge = new Forge();
        TransportPair x = Pairs.begun();
        x.tick(1);
        x.twice(0, 0);
        x.deliver(0, 0);
        x.tick(301);
        check.due("probed in space 0", x.space(1, 0, 0) * 10 + x.space(1, 1, 0), 31);
        Forge.comes(x, 0, forge.packet(0, 0, 1, 1200, ack(2, 0, 0)));
        check.due("a sample of 0", x.book(1, 5) + x.book(1, 9), 0);
        check.due("LOSS TIME goes first", x.space(1, 0, 2), 303);
        x.tick(1);
        check.due("ANSWER again", x.space(1, 0, 0) * 10 + x.space(1, 1, 0), 41);
        check.due("both are due in the next tick", x.space(1, 0, 3) * 1000 + x.space(1, 1, 3), 304003);
        x.tick(1);
        check.due("space 1 has two probes", x.space(1, 1, 0), 3);
        check.due("space 0 none", x.space(1, 0, 0), 4);
    }

    /** "DONE: lost, it is to be sent again, if it never arrived." */
    private static void doneLost() throws Exception {
        Forge forge = new Forge();
        for (int arrived = 0; arrived < 2; arrived++) {
            TransportPair x = Pairs.begun();
            x.tick(1);
            x.deliver(0, 0);
            x.tick(1);
            x.deliver(1, 0);
            x.tick(1);
            x.deliver(0, 0);
            Pairs.clear(x);
            x.tick(1);
            check.due("DONE", forge.inside(x, 1, 0)[0], 30);
            Pairs.clear(x);
            x.tick((int) x.space(1, 2, 3) - x.book(1, 0));
            check.due("lost: again", forge.inside(x, 1, 0)[0], 30);
            Pairs.clear(x);
            Pairs.tape(x, arrived == 0 ? Keys.bytes(1, 1) : ack(0, 0, 0));
            x.raw(0);
            x.tick(1);
            x.deliver(0, 0);
            Pairs.clear(x);
            x.tick((int) x.space(1, 2, 3) - x.book(1, 0));
            byte[] got = forge.inside(x, 1, x.line(1, 0) - 2);
            check.due("lost once more, " + arrived + " arrived", got[got.length - 2] == 30 || got[got.length - 1] == 30 ? 1 : 0, 1 - arrived);
        }
    }

    /** Side 0's packets in space 2 by number, each with a PING. */
    private static void comes(TransportPair x, Forge forge, long... numbers) throws Exception {
        for (long n : numbers) {
            Forge.comes(x, 0, forge.shortPacket(0, 3, n, Keys.bytes(1, 1)));
        }
    }

    /** Side 1 is open, and a datagram of 31 bytes lies on way 0; 0 has come. */
    private static TransportPair waiting() {
        TransportPair x = Pairs.still();
        Pairs.tape(x, 1, 1, 1, 1);
        x.raw(0);
        x.tick(1);
        check.due("a datagram", x.at(0, 0, -1), 31);
        return x;
    }

    /** "at most 64: with one more the lowest one goes, and FLOOR is 1 more than its greatest"; "or below FLOOR, is OLD". */
    private static void ranges() throws Exception {
        Forge forge = new Forge();
        TransportPair x = waiting();
        comes(x, forge, 2, 3);
        for (int n = 6; n <= 128; n += 2) {
            comes(x, forge, n);
        }
        check.due("64 ranges", x.space(1, 2, 6), 64);
        check.due("FLOOR", x.space(1, 2, 10), 0);
        long pending = x.space(1, 2, 7);
        comes(x, forge, 0);
        check.due("0 is in a range", x.space(1, 2, 7), pending);
        comes(x, forge, 130);
        check.due("64 still", x.space(1, 2, 6), 64);
        check.due("FLOOR behind 0", x.space(1, 2, 10), 1);
        comes(x, forge, 0);
        check.due("0 is below FLOOR", x.space(1, 2, 7), pending + 1);
        comes(x, forge, 132);
        check.due("FLOOR behind 2 and 3", x.space(1, 2, 10), 4);
        comes(x, forge, 0, 1, 2, 3);
        check.due("all are below FLOOR", x.space(1, 2, 7), pending + 2);
        comes(x, forge, 4);
        check.due("FLOOR itself is not old, and a range of its own goes at once", x.space(1, 2, 7), pending + 3);
        check.due("FLOOR behind it", x.space(1, 2, 10), 5);
        comes(x, forge, 4);
        check.due("then it is old", x.space(1, 2, 7), pending + 3);
        comes(x, forge, 5);
        check.due("one that joins a range", x.space(1, 2, 7), pending + 4);
        check.due("64 still", x.space(1, 2, 6) * 10 + x.space(1, 2, 10), 645);
        comes(x, forge, 7);
        check.due("two ranges become one", x.space(1, 2, 6), 63);
        comes(x, forge, 200);
        check.due("64 again", x.space(1, 2, 6) * 10 + x.space(1, 2, 10), 645);
        comes(x, forge, 201, 199, 132, 131);
        check.due("at the ends of ranges", x.space(1, 2, 7), pending + 9);
        check.due("131 joins two", x.space(1, 2, 6), 63);
    }

    /** A number joins what is below it, above it, or both; an acknowledgement tells the ranges. */
    private static void rangesGrowTogether() throws Exception {
        Forge forge = new Forge();
        long[][] rows = {{1}, {2}, {2, 1}, {5, 9, 7}, {5, 9, 7, 8, 6}, {9, 5, 6, 4, 8, 10}, {3, 1, 2}, {100, 50, 75, 74, 76, 1}};
        for (long[] row : rows) {
            TransportPair x = waiting();
            boolean[] there = new boolean[102];
            there[0] = true;
            comes(x, forge, row);
            for (long n : row) {
                there[(int) n] = true;
            }
            byte[] want = Keys.NONE;
            int count = 0;
            long least = -1;
            for (int n = 100; n >= 0; n--) {
                if (there[n] && !there[n + 1]) {
                    int low = n;
                    while (low > 0 && there[low - 1]) {
                        low--;
                    }
                    want = count == 0 ? Keys.join(Forge.number(n), Keys.bytes(0, 99), Forge.number(n - low))
                        : Keys.join(want, Forge.number(least - n - 2), Forge.number(n - low));
                    least = low;
                    count++;
                    n = low;
                }
            }
            check.due("ranges", x.space(1, 2, 6), count);
            Pairs.clear(x);
            x.tick(25);
            check.isTrue("an ACK", x.line(1, 0) > 0);
            byte[] got = forge.inside(x, 1, 0);
            int delayAt = 1 + Forge.number(greatest(there)).length;
            check.due("how many follow", got[delayAt + 1], count - 1);
            byte[] all = Keys.join(Keys.bytes(2), want);
            all[delayAt] = got[delayAt];
            all[delayAt + 1] = (byte) (count - 1);
            check.isTrue("the ranges, the greatest first", java.util.Arrays.equals(got, all));
        }
    }

    private static int greatest(boolean[] there) {
        int n = there.length - 1;
        while (!there[n]) {
            n--;
        }
        return n;
    }

    /** "when two are pending, or one is that was not 1 more than the greatest that had come before it, .. or 25 ticks". */
    private static void dueInTheLastSpace() throws Exception {
        Forge forge = new Forge();
        TransportPair x = waiting();
        comes(x, forge, 1);
        check.due("pending", x.space(1, 2, 7), 1);
        x.tick(24);
        check.due("24 ticks", x.line(1, 0), 0);
        x.tick(1);
        check.due("25 ticks", x.line(1, 0), 1);
        check.due("none is pending", x.space(1, 2, 7), 0);
        TransportPair y = waiting();
        comes(y, forge, 1, 2);
        y.tick(1);
        check.due("two", y.line(1, 0), 1);
        TransportPair z = waiting();
        comes(z, forge, 2);
        z.tick(1);
        check.due("2 more", z.line(1, 0), 1);
        comes(z, forge, 1);
        z.tick(1);
        check.due("one below", z.line(1, 0), 2);
        comes(z, forge, 3);
        z.tick(1);
        check.due("1 more again", z.line(1, 0), 2);
        TransportPair w = waiting();
        comes(w, forge, 1);
        w.tick(20);
        comes(w, forge, 1);
        w.tick(4);
        check.due("one that is old changes nothing", w.line(1, 0), 0);
        w.tick(1);
        check.due("25 ticks after the first one", w.line(1, 0), 1);
        TransportPair v = waiting();
        Forge.comes(v, 0, forge.shortPacket(0, 3, 5, Keys.bytes(0, 0)));
        Forge.comes(v, 0, forge.shortPacket(0, 3, 7, Keys.bytes(0, 0)));
        v.tick(40);
        check.due("PADDING is not pending", v.line(1, 0) + v.space(1, 2, 7), 0);
        check.due("but has come", v.space(1, 2, 6), 3);
    }

    /** "(not 0, if it was the first)"; "in the spaces 0 and 1 as soon as something is pending". */
    private static void dueByTheFirstNumber() {
        for (int dropped = 0; dropped < 2; dropped++) {
            TransportPair x = Pairs.begun();
            x.tick(1);
            x.deliver(0, 0);
            check.due("pending in space 0", x.space(1, 0, 7), 1);
            x.tick(1);
            check.due("told at once", x.space(1, 0, 7), 0);
            x.deliver(1, 0);
            x.tick(1);
            x.deliver(0, 0);
            x.tick(1);
            if (dropped == 1) {
                x.drop(1, 0);
                Pairs.tape(x, 1, 1);
                x.raw(1);
                x.tick(1);
            }
            x.deliver(1, 0);
            check.due("the first one has come", x.space(0, 2, 7), 1);
            x.tick(1);
            check.due("its number is " + dropped, x.space(0, 2, 0), dropped);
        }
    }

    /** "DELAY is the time since the greatest came (0 before)." */
    private static void delayOfAnAck() throws Exception {
        Forge forge = new Forge();
        for (int wait = 1; wait <= 25; wait += 8) {
            TransportPair x = waiting();
            comes(x, forge, 9);
            Pairs.clear(x);
            x.tick(1);
            check.due("due at once", forge.inside(x, 1, 0)[2], 1);
            Pairs.clear(x);
            x.tick(wait);
            Pairs.tape(x, 1, 1, 1, 1);
            x.raw(0);
            x.tick(1);
            comes(x, forge, 4);
            Pairs.clear(x);
            x.tick(1);
            byte[] got = forge.inside(x, 1, 0);
            check.due("a lesser one is told, the time is the greatest one's", got[2], wait + 3);
        }
    }
}
