/** Closing, draining, the quiet time, and the limits of what a side sends, at their edges (promises 7, 15, 22, 25). */
public final class EndEdgesTest {
    private static final Check check = new Check();

    public static void main(String[] args) throws Exception {
        check.end();
    }

    /** A pair in which a side is in a state; side 0 has begun, but for the state 0. */
    static TransportPair inState(int side, int state) {
        if (state < 2) {
            TransportPair x = state == 0 && side == 0 ? Pairs.ready() : Pairs.begun();
            x.tick(1);
            if (state == 1 && side == 1) {
                x.deliver(0, 0);
            }
            return x;
        }
        TransportPair x = Pairs.still();
        if (state == 3) {
            x.close(side, 5);
        } else if (state > 3) {
            Pairs.rawNow(x, 1 - side, 28, 5, 0, 0);
        }
        if (state == 5) {
            x.tick(500);
        }
        Pairs.clear(x);
        check.due("state", x.look(side, 0), state);
        return x;
    }
}
