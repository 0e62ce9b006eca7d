/** Counts the answers of one test that are not the ones due, and prints each. */
final class Check {
    interface Call {
        long run();
    }

    private int all;
    private int wrong;

    void due(String what, long got, long want) {
        all++;
        if (got != want) {
            wrong++;
            System.out.println(what + " answered " + got + ", due is " + want);
        }
    }

    void isTrue(String what, boolean got) {
        due(what, got ? 1 : 0, 1);
    }

    /** The call throws just this exception, and nothing that can be seen of the object changes by it. */
    void refused(String what, TransportPair x, Class<? extends RuntimeException> want, Call call) {
        String before = Pairs.sight(x);
        Class<?> got = null;
        try {
            call.run();
        } catch (RuntimeException e) {
            got = e.getClass();
        }
        isTrue(what + " throws " + want.getSimpleName() + " (got " + got + ")", got == want);
        isTrue(what + " changes nothing", before.equals(Pairs.sight(x)));
    }

    void end() {
        System.out.println(all + " answers, " + wrong + " wrong");
        if (wrong > 0 || all == 0) {
            System.exit(1);
        }
    }
}
