import java.util.Arrays;

/** THE GREETING and PARAMETERS at their edges (promises 4 to 7, 17, 25 and 29). */
public final class GreetingEdgesTest {
    private static final Check check = new Check();
    private static final long MOST = 4611686018427387903L;
    private static final long STREAMS = 1152921504606846976L;
    private static final int UNEXPECTED = 266;
    private static final int WRONG_SIZE = 306;
    private static final int WRONG_PROOF = 307;
    private static final int PARAMETERS = 8;

    public static void main(String[] args) throws Exception {
        typesAtHello();
        typesBehindHello();
        typesAtAnswer();
        typesBehindAnswer();
        typesBehindDone();
        sizes();
        proofs();
        nothingIsTakenBehindAFault();
        theGreatestHello();
        justOneNumber();
        valuesOfNumbers();
        sizesOfData();
        ofTheOneThatAnswers();
        forTheSecondTime();
        cutParameters();
        names();
        whatIsNotTold();
        setParameters();
        secretsOfSides();
        check.end();
    }

    /** Side 1 is idle, and a datagram of 1200 lies on way 0. */
    private static TransportPair asked() {
        TransportPair x = Pairs.begun();
        x.tick(1);
        return x;
    }

    private static TransportPair asked(Forge forge, byte[] crypto) throws Exception {
        TransportPair x = asked();
        Forge.comes(x, 0, forge.packet(0, 0, 0, 1200, Forge.crypto(0, crypto)));
        return x;
    }

    /** Side 1 has answered, and a datagram of 1200 lies on each way. */
    private static TransportPair answered() {
        TransportPair x = asked();
        x.twice(0, 0);
        x.deliver(0, 0);
        x.tick(1);
        return x;
    }

    /** Side 0 has got ANSWER, and bytes at level 1 (in one datagram). */
    private static TransportPair granted(Forge forge, byte[]... frames) throws Exception {
        TransportPair x = answered();
        byte[] answers = forge.packet(0, 1, 0, 0, Forge.crypto(0, forge.answer));
        Forge.comes(x, 1, Keys.join(answers, forge.packet(1, 1, 0, 1200 - answers.length, frames)));
        return x;
    }

    private static void state(String what, TransportPair x, int side, int reason, int waits) {
        check.due(what + ": state", x.look(side, 0), reason == 0 ? waits == 0 ? 2 : 1 : 3);
        check.due(what + ": reason", x.look(side, 1), reason);
        check.due(what + ": waits for", x.look(side, 4), waits);
    }

    private static final int[] TYPES = {0, 1, 2, 3, 7, 8, 9, 19, 20, 21, 127, 128, 255};

    /** "266 a type that is not the one waited for at this level (as soon as the byte is there ..)". */
    private static void typesAtHello() throws Exception {
        Forge forge = new Forge();
        for (int type : TYPES) {
            TransportPair x = asked(forge, Keys.bytes(type));
            state("type " + type, x, 1, type == 1 ? 0 : UNEXPECTED, type == 1 ? 1 : 0);
            check.due("secrets", x.look(1, 5), 0);
        }
        state("no byte", asked(forge, Keys.NONE), 1, 0, 1);
    }

    /** Side 1 waits for DONE, at level 1: "any byte at a level at which nothing is waited for now". */
    private static void typesBehindHello() throws Exception {
        Forge forge = new Forge();
        int size = forge.hello.length;
        for (int type : TYPES) {
            TransportPair x = answered();
            Forge.comes(x, 0, forge.packet(0, 0, 1, 1200, Forge.crypto(size, Keys.bytes(type))));
            state("at level 0, type " + type, x, 1, UNEXPECTED, 0);
            x = answered();
            Forge.comes(x, 0, forge.packet(1, 0, 0, 1200, Forge.crypto(0, Keys.bytes(type))));
            state("at level 1, type " + type, x, 1, type == 20 ? 0 : UNEXPECTED, type == 20 ? 20 : 0);
            state("in the same piece, type " + type, asked(forge, Keys.join(forge.hello, Keys.bytes(type))), 1, UNEXPECTED, 0);
        }
        TransportPair x = answered();
        Forge.comes(x, 0, forge.packet(0, 0, 1, 1200, Forge.crypto(0, forge.hello)));
        state("HELLO once more, which was taken", x, 1, 0, 20);
        Forge.comes(x, 0, forge.packet(0, 0, 2, 1200, Forge.crypto(size, Keys.NONE)));
        state("nothing behind it", x, 1, 0, 20);
        Forge.comes(x, 0, forge.packet(0, 0, 3, 1200, Forge.crypto(size + 1, Keys.bytes(20))));
        state("a byte behind a gap", x, 1, 0, 20);
        Forge.comes(x, 0, forge.packet(0, 0, 4, 1200, Forge.crypto(size, Keys.bytes(20))));
        state("the gap", x, 1, UNEXPECTED, 0);
    }

    private static void typesAtAnswer() throws Exception {
        Forge forge = new Forge();
        for (int type : TYPES) {
            TransportPair x = answered();
            Forge.comes(x, 1, forge.packet(0, 1, 0, 1200, Forge.crypto(0, Keys.bytes(type))));
            state("type " + type, x, 0, type == 2 ? 0 : UNEXPECTED, type == 2 ? 2 : 0);
            check.due("secrets", x.look(0, 5), 0);
        }
    }

    /** Side 0 waits for PARAMETERS, then for DONE, at level 1. */
    private static void typesBehindAnswer() throws Exception {
        Forge forge = new Forge();
        byte[] parameters = Arrays.copyOf(forge.granted, forge.granted.length - 36);
        for (int type : TYPES) {
            TransportPair x = granted(forge, Forge.crypto(0, Keys.bytes(type)));
            state("for PARAMETERS " + type, x, 0, type == 8 ? 0 : UNEXPECTED, type == 8 ? 8 : 0);
            check.due("secrets", x.look(0, 5), 1);
            x = granted(forge, Forge.crypto(0, Keys.join(parameters, Keys.bytes(type))));
            state("for DONE " + type, x, 0, type == 20 ? 0 : UNEXPECTED, type == 20 ? 20 : 0);
            x = answered();
            Forge.comes(x, 1, forge.packet(0, 1, 0, 1200, Forge.crypto(0, forge.answer), Forge.crypto(36, Keys.bytes(type))));
            state("at level 0 " + type, x, 0, UNEXPECTED, 0);
        }
    }

    /** Side 0 is FINISHED: nothing is waited for at any level. */
    private static void typesBehindDone() throws Exception {
        Forge forge = new Forge();
        int size = forge.granted.length;
        for (int type : TYPES) {
            TransportPair x = granted(forge, Forge.crypto(0, forge.granted));
            state("FINISHED", x, 0, 0, 0);
            Forge.comes(x, 1, forge.packet(1, 1, 1, 1200, Forge.crypto(size, Keys.bytes(type))));
            state("at level 1 " + type, x, 0, UNEXPECTED, 0);
            x = granted(forge, Forge.crypto(0, forge.granted));
            Forge.comes(x, 1, forge.packet(0, 1, 1, 1200, Forge.crypto(36, Keys.bytes(type))));
            state("at level 0 " + type, x, 0, UNEXPECTED, 0);
            x = granted(forge, Forge.crypto(0, Keys.join(forge.granted, Keys.bytes(type))));
            state("in the same piece " + type, x, 0, UNEXPECTED, 0);
            check.due("the talk secrets are there", x.look(0, 5), 2);
            check.due("but it was never OPEN", x.space(0, 2, 11), 0);
        }
        TransportPair x = granted(forge, Forge.crypto(0, forge.granted), Forge.crypto(0, forge.granted));
        state("all of it once more", x, 0, 0, 0);
    }

    private static byte[] sized(int type, int size) {
        return Keys.bytes(type, size >> 16, size >> 8, size);
    }

    /** "306 a size that is not as said (HELLO 32 .. 332; as soon as the four bytes are there)". */
    private static void sizes() throws Exception {
        Forge forge = new Forge();
        byte[] parameters = Arrays.copyOf(forge.granted, forge.granted.length - 36);
        for (int size : new int[] {0, 1, 31, 32, 33, 299, 300, 301, 331, 332, 333, 65536, 65568, 16777215}) {
            boolean hello = size >= 32 && size <= 332;
            state("HELLO of " + size, asked(forge, sized(1, size)), 1, hello ? 0 : WRONG_SIZE, hello ? 1 : 0);
            state("three bytes of it", asked(forge, Arrays.copyOf(sized(1, size), 3)), 1, 0, 1);
            TransportPair x = answered();
            Forge.comes(x, 1, forge.packet(0, 1, 0, 1200, Forge.crypto(0, sized(2, size))));
            state("ANSWER of " + size, x, 0, size == 32 ? 0 : WRONG_SIZE, size == 32 ? 2 : 0);
            boolean told = size > 0 && size <= 300;
            if (size > 0) {
                x = granted(forge, Forge.crypto(0, sized(8, size)));
                state("PARAMETERS of " + size, x, 0, told ? 0 : WRONG_SIZE, told ? 8 : 0);
            }
            x = granted(forge, Forge.crypto(0, Keys.join(parameters, sized(20, size))));
            state("DONE of side 1 of " + size, x, 0, size == 32 ? 0 : WRONG_SIZE, size == 32 ? 20 : 0);
            x = answered();
            Forge.comes(x, 0, forge.packet(1, 0, 0, 1200, Forge.crypto(0, sized(20, size))));
            state("DONE of side 0 of " + size, x, 1, size == 32 ? 0 : WRONG_SIZE, size == 32 ? 20 : 0);
        }
        TransportPair x = granted(forge, Forge.crypto(0, sized(8, 0)));
        state("PARAMETERS of 0: there, but wrong", x, 0, PARAMETERS, 20);
    }

    /** "307 a proof that is not the right one". */
    private static void proofs() throws Exception {
        Forge forge = new Forge();
        int all = forge.granted.length;
        for (int i = 0; i < 32; i++) {
            byte[] wrong = Forge.spoiled(forge.granted, all - 32 + i, all - 31 + i);
            TransportPair x = granted(forge, Forge.crypto(0, wrong));
            state("byte " + i + " of side 1's", x, 0, WRONG_PROOF, 0);
            check.due("no talk secrets", x.look(0, 5), 1);
            x = answered();
            Forge.comes(x, 0, forge.packet(1, 0, 0, 1200, Forge.crypto(0, Forge.spoiled(forge.done0, 4 + i, 5 + i))));
            state("byte " + i + " of side 0's", x, 1, WRONG_PROOF, 0);
            check.due("not confirmed", x.look(1, 2), 0);
        }
        TransportPair x = granted(forge, Forge.crypto(0, Arrays.copyOf(forge.granted, all - 1)));
        state("all but one byte", x, 0, 0, 20);
        x = granted(forge, Forge.crypto(0, forge.granted));
        state("all of it", x, 0, 0, 0);
        x = answered();
        Forge.comes(x, 0, forge.packet(1, 0, 0, 1200, Forge.crypto(0, Arrays.copyOf(forge.done0, 35))));
        state("all but one byte of side 0's", x, 1, 0, 20);
        Forge.comes(x, 0, forge.packet(1, 0, 1, 1200, Forge.crypto(35, Arrays.copyOfRange(forge.done0, 35, 36))));
        state("all of it", x, 1, 0, 0);
        check.due("confirmed", x.look(1, 2), 1);
    }

    /** "the first one counts, nothing waits then, and nothing is taken from then on". */
    private static void nothingIsTakenBehindAFault() throws Exception {
        Forge forge = new Forge();
        TransportPair x = asked();
        Forge.comes(x, 0, forge.packet(0, 0, 0, 1200, Forge.crypto(1, Arrays.copyOfRange(forge.hello, 1, 40)), Forge.crypto(0, Keys.bytes(9))));
        state("a fault", x, 1, UNEXPECTED, 0);
        Forge.comes(x, 0, forge.packet(0, 0, 1, 1200, Forge.crypto(0, forge.hello)));
        state("HELLO behind it", x, 1, UNEXPECTED, 0);
        check.due("no more secrets", x.look(1, 5), 0);
        byte[] first = Keys.join(forge.hello, Keys.bytes(9, 255, 255, 255));
        state("266 ahead of 306", asked(forge, first), 1, UNEXPECTED, 0);
    }

    /** "PARAMETERS, 0 to 300 bytes": a HELLO of 332 goes through. */
    private static void theGreatestHello() throws Exception {
        Forge plain = new Forge();
        int rest = 332 - (plain.hello.length - 4);
        for (int more = -1; more <= 1; more++) {
            int size = rest + more - 3;
            Forge forge = new Forge(Keys.join(Keys.bytes(33), Forge.number(size), new byte[size]), null);
            check.due("size", forge.hello.length, 336 + more);
            state("HELLO of " + (332 + more), asked(forge, forge.hello), 1, more > 0 ? WRONG_SIZE : 0, more > 0 ? 0 : 20);
        }
    }

    private static byte[] parameter(long id, byte[]... data) {
        byte[] all = Keys.join(data);
        return Keys.join(Forge.number(id), Forge.number(all.length), all);
    }

    private static byte[] parameter(long id, long value) {
        return parameter(id, Forge.number(value));
    }

    /** Side 0 tells its name and these; the reason for which side 1 closes. */
    private static int toldToSideOne(byte[]... parts) throws Exception {
        Forge forge = new Forge();
        byte[] hello = Keys.message(1, Keys.join(Pairs.randomOf(0), parameter(15, forge.name0), Keys.join(parts)));
        TransportPair x = asked(forge, hello);
        check.due("it waits for DONE all the same", x.look(1, 4), 20);
        check.due("and has secrets", x.look(1, 5), 2);
        return x.look(1, 1);
    }

    /** Side 1 tells both names and these; the reason for which side 0 closes. */
    private static int toldToSideZero(byte[]... parts) throws Exception {
        Forge names = new Forge();
        byte[] all = Keys.join(parameter(0, names.firstName), parameter(15, names.name1), Keys.join(parts));
        Forge forge = new Forge(Keys.NONE, all);
        TransportPair x = granted(forge, Forge.crypto(0, forge.granted));
        check.due("FINISHED all the same", x.look(0, 4), 0);
        return x.look(0, 1);
    }

    private static void both(String what, boolean right, byte[]... parts) throws Exception {
        check.due(what + ", to side 1", toldToSideOne(parts), right ? 0 : PARAMETERS);
        check.due(what + ", to side 0", toldToSideZero(parts), right ? 0 : PARAMETERS);
    }

    /** "1, 3 .. 11, 14: the data is just one number." */
    private static void justOneNumber() throws Exception {
        int[] ids = {1, 3, 4, 5, 6, 7, 8, 9, 10, 11, 14};
        for (int id : ids) {
            long value = id == 3 ? 1200 : id == 10 ? 0 : 2;
            both("id " + id + ", a number", true, parameter(id, value));
            both("id " + id + ", in 8 bytes", true, parameter(id, Keys.bytes(0xc0, 0, 0, 0, 0, 0, (int) value >> 8, (int) value)));
            both("id " + id + ", no data", false, parameter(id, Keys.NONE));
            both("id " + id + ", a byte behind it", false, parameter(id, Forge.number(value), Keys.bytes(0)));
            both("id " + id + ", a byte too few", false, parameter(id, Keys.bytes(0x80, 0, 4)));
            both("id " + id + ", in 9 bytes", false, parameter(id, Keys.bytes(0xc0, 0, 0, 0, 0, 0, 4, 0xb0, 0)));
        }
    }

    /** "3 is at least 1200, 8 and 9 at most 1152921504606846976, 10 at most 20, 11 below 16384, 14 at least 2." */
    private static void valuesOfNumbers() throws Exception {
        for (int more = -1; more <= 1; more++) {
            both("3, 1200 and " + more, more >= 0, parameter(3, 1200 + more));
            both("8, the most and " + more, more <= 0, parameter(8, STREAMS + more));
            both("9, the most and " + more, more <= 0, parameter(9, STREAMS + more));
            both("10, 20 and " + more, more <= 0, parameter(10, 20 + more));
            both("11, 16384 and " + more, more < 0, parameter(11, 16384 + more));
            both("14, 2 and " + more, more >= 0, parameter(14, 2 + more));
        }
        for (int id : new int[] {1, 4, 5, 6, 7}) {
            both("id " + id + ", 0", true, parameter(id, 0));
            both("id " + id + ", the most", true, parameter(id, MOST));
        }
        both("3, the most", true, parameter(3, MOST));
        both("14, the most", true, parameter(14, MOST));
        for (int id = 8; id <= 11; id++) {
            both("id " + id + ", 0", true, parameter(id, 0));
        }
        both("3, 0", false, parameter(3, 0));
        both("14, 0", false, parameter(14, 0));
    }

    /** "12: no data. 2: 16 bytes. 0, 15, 16: 0 .. 20 bytes. 13: 41 .. 61 bytes. Others mean nothing." */
    private static void sizesOfData() throws Exception {
        both("12 without data", true, parameter(12, Keys.NONE));
        both("12 with a byte", false, parameter(12, Keys.bytes(0)));
        for (int size : new int[] {0, 15, 16, 17}) {
            check.due("2 of " + size, toldToSideZero(parameter(2, new byte[size])), size == 16 ? 0 : PARAMETERS);
        }
        for (int size : new int[] {0, 1, 19, 20, 21, 60}) {
            check.due("16 of " + size, toldToSideZero(parameter(16, new byte[size])), size <= 20 ? 0 : PARAMETERS);
        }
        for (int size : new int[] {0, 40, 41, 42, 60, 61, 62}) {
            check.due("13 of " + size, toldToSideZero(parameter(13, new byte[size])), size >= 41 && size <= 61 ? 0 : PARAMETERS);
        }
        for (long id : new long[] {17, 18, 63, 64, 16384, 1073741824, MOST}) {
            both("id " + id + " without data", true, parameter(id, Keys.NONE));
            both("id " + id + " with data", true, parameter(id, new byte[50]));
        }
    }

    /** "0, 2, 13, 16 are of the one that answers alone." */
    private static void ofTheOneThatAnswers() throws Exception {
        check.due("0", toldToSideOne(parameter(0, new byte[8])), PARAMETERS);
        check.due("2", toldToSideOne(parameter(2, new byte[16])), PARAMETERS);
        check.due("13", toldToSideOne(parameter(13, new byte[41])), PARAMETERS);
        check.due("16", toldToSideOne(parameter(16, new byte[8])), PARAMETERS);
        check.due("1", toldToSideOne(parameter(1, 8)), 0);
    }

    /** "2 KIND: a known id for the second time". */
    private static void forTheSecondTime() throws Exception {
        for (int id : new int[] {1, 3, 4, 5, 6, 7, 8, 9, 10, 11, 14}) {
            byte[] p = parameter(id, id == 3 ? 1200 : id == 10 ? 0 : 2);
            both("id " + id + " twice", false, p, p);
            both("id " + id + " twice, with another between", false, p, parameter(40, Keys.NONE), p);
        }
        byte[] twelve = parameter(12, Keys.NONE);
        both("12 twice", false, twelve, twelve);
        byte[] sixteen = parameter(16, new byte[8]);
        check.due("16 once", toldToSideZero(sixteen), 0);
        check.due("16 twice", toldToSideZero(sixteen, sixteen), PARAMETERS);
        check.due("0 twice", toldToSideZero(parameter(0, new Forge().firstName)), PARAMETERS);
        check.due("15 twice", toldToSideOne(parameter(15, new Forge().name0)), PARAMETERS);
        for (long id : new long[] {17, 64, MOST}) {
            both("id " + id + " twice", true, parameter(id, Keys.NONE), parameter(id, new byte[3]));
        }
    }

    /** "1 CUT". */
    private static void cutParameters() throws Exception {
        byte[][] rows = {parameter(4, 5), parameter(12, Keys.NONE), parameter(300, new byte[3]), parameter(4, 100000), parameter(MOST, new byte[70])};
        for (byte[] row : rows) {
            both("all of it", true, row);
            for (int size = 1; size < row.length; size++) {
                both("cut to " + size + " of " + row.length, false, Arrays.copyOf(row, size));
            }
        }
        both("data of the most", false, Keys.join(Forge.number(50), Forge.number(MOST), new byte[9]));
    }

    /** "15 must be that name which this side writes TO .., and for side 0 also 0 the first name; or it closes with 8". */
    private static void names() throws Exception {
        Forge forge = new Forge();
        byte[][] names = {forge.name0, forge.name1, forge.firstName, Arrays.copyOf(forge.name0, 7), Arrays.copyOf(forge.name0, 9),
            Arrays.copyOf(forge.name1, 7), Arrays.copyOf(forge.name1, 9), Forge.spoiled(forge.name0, 0, 1), Forge.spoiled(forge.name1, 0, 1),
            Forge.spoiled(forge.firstName, 0, 1), Forge.spoiled(forge.name0, 7, 8), Forge.spoiled(forge.name1, 7, 8), Keys.NONE, new byte[8], new byte[20], new byte[21]};
        for (byte[] name : names) {
            byte[] hello = Keys.message(1, Keys.join(Pairs.randomOf(0), parameter(15, name)));
            boolean right = name == forge.name0;
            check.due("15 by side 0, of " + name.length, asked(forge, hello).look(1, 1), right ? 0 : PARAMETERS);
            Forge told = new Forge(Keys.NONE, Keys.join(parameter(0, forge.firstName), parameter(15, name)));
            boolean rightOne = name == forge.name1;
            check.due("15 by side 1, of " + name.length, granted(told, Forge.crypto(0, told.granted)).look(0, 1), rightOne ? 0 : PARAMETERS);
            told = new Forge(Keys.NONE, Keys.join(parameter(0, name), parameter(15, forge.name1)));
            boolean rightFirst = name == forge.firstName;
            check.due("0 by side 1, of " + name.length, granted(told, Forge.crypto(0, told.granted)).look(0, 1), rightFirst ? 0 : PARAMETERS);
        }
        check.due("no 15 by side 0", asked(forge, Keys.message(1, Pairs.randomOf(0))).look(1, 1), PARAMETERS);
    }

    /** "Without them: .. others 0": limits that are not told are 0. */
    private static void whatIsNotTold() throws Exception {
        Forge forge = new Forge();
        byte[] name = parameter(15, forge.name0);
        TransportPair x = asked(forge, Keys.message(1, Keys.join(Pairs.randomOf(0), name)));
        for (int what : new int[] {1, 7, 8}) {
            check.due("limit " + what, x.streams(1, what), 0);
        }
        check.due("open", x.open(1, true), -1);
        x = asked(forge, Keys.message(1, Keys.join(Pairs.randomOf(0), parameter(4, 44), parameter(5, 55), parameter(6, 66),
            parameter(7, 77), parameter(8, 3), parameter(9, 2), name)));
        check.due("all data", x.streams(1, 1), 44);
        check.due("of BOTH ways", x.streams(1, 7), 3);
        check.due("of ONE way", x.streams(1, 8), 2);
        check.due("open", x.open(1, true) * 100 + x.open(1, false), 103);
        check.due("a stream of BOTH ways that side 1 opens", x.stream(1, 1, 3), 66);
        check.due("of ONE way", x.stream(1, 3, 3), 77);
    }

    /** "1, 4 .. 9 as set, those that are 0 left out": what one side sets is what the other one knows. */
    private static void setParameters() throws Exception {
        int[] none = {1, 1, 0, 1, 4, 0, 1, 5, 0, 1, 6, 0, 1, 7, 0, 1, 8, 0, 1, 9, 0};
        int[] most = {1, 1, 200000, 1, 4, 65536, 1, 5, 65536, 1, 6, 65536, 1, 7, 65536, 1, 8, 64, 1, 9, 64};
        int[] edges = {1, 1, 16384, 1, 4, 64, 1, 5, 63, 1, 6, 16383, 1, 7, 16384, 1, 8, 63, 1, 9, 1};
        for (int[] set : new int[][] {none, most, edges}) {
            TransportPair x = Pairs.with(set);
            x.begin();
            x.tick(1);
            x.deliver(0, 0);
            x.tick(1);
            Forge forge = new Forge(set);
            int length = (x.at(1, 0, 24) & 63) << 8 | x.at(1, 0, 25);
            byte[] got = forge.insideLong(x, 1, 0, 26 + length, 1);
            byte[] want = Forge.crypto(0, forge.granted);
            check.isTrue("PARAMETERS in the fewest bytes", Arrays.equals(Arrays.copyOf(got, want.length), want));
            x.deliver(1, 0);
            check.due("all data", x.streams(0, 1), set[5]);
            check.due("of BOTH ways", x.streams(0, 7), set[17]);
            check.due("of ONE way", x.streams(0, 8), set[20]);
            check.due("open", x.open(0, true), set[17] == 0 ? -1 : 0);
            check.due("a stream's limit", x.stream(0, 0, 3), set[17] == 0 ? -1 : set[11]);
        }
    }

    /** Keys and random bytes of side 1 may be told until it begins; each of them counts. */
    private static void secretsOfSides() {
        for (int i = 0; i < 32; i++) {
            TransportPair x = Pairs.ready();
            byte[] key = Pairs.key();
            key[i] ^= 1;
            Pairs.tape(x, key);
            x.begin();
            x.key(1);
            x.flow(1);
            x.tick(6);
            check.due("another byte " + i + " of the key", x.look(0, 4), 8);
        }
        TransportPair x = Pairs.begun();
        Pairs.tape(x, Pairs.row(32, 200));
        x.random(1);
        x.tick(1);
        x.deliver(0, 0);
        x.tick(1);
        byte[] by = Arrays.copyOfRange(Pairs.datagram(x, 1, 0), 15, 23);
        check.isTrue("the own name is bytes 0 .. 7 of the latest", Arrays.equals(by, Arrays.copyOf(Pairs.row(32, 200), 8)));
    }
}
