import java.nio.file.Files;
import java.nio.file.Path;

/** The calls of README.md, in its order, with the answers that it tells. */
public final class ReadmeTest {
    private static final Check check = new Check();

    public static void main(String[] args) throws Exception {
        TransportPair pair = new TransportPair();
        for (int side = 0; side < 2; side++) {
            pair.feed(11, 2, 3, 4, 5);
            pair.feed(11, 7, 8, 9, 10);
            pair.end(32);
            pair.key(side);
            pair.feed(70 + side, 2, 3, 4, 5);
            pair.feed(70 + side, 7, 8, 9, 10);
            pair.end(32);
            pair.random(side);
        }
        pair.parameter(0, 1, 20000);
        greeting(pair);
        int id = pair.open(0, true);
        check.due("open", id, 0);
        lines(pair, id);
        stream(pair, id);
        allOfIt();
        check.end();
    }

    private static void greeting(TransportPair pair) {
        pair.begin();
        check.due("state of side 0", pair.look(0, 0), 1);
        check.due("side 0 waits", pair.look(0, 4), 2);
        pair.tick(1);
        check.due("HELLO", pair.at(0, 0, -1), 1200);
        pair.deliver(0, 0);
        check.due("state of side 1", pair.look(1, 0), 1);
        pair.tick(1);
        pair.deliver(1, 0);
        check.due("state of side 0", pair.look(0, 0), 2);
        pair.tick(1);
        pair.deliver(0, 0);
        check.due("state of side 1", pair.look(1, 0), 2);
        check.due("side 1 is confirmed", pair.look(1, 2), 1);
        pair.tick(1);
        pair.deliver(1, 0);
        check.due("side 0 is confirmed", pair.look(0, 2), 1);
    }

    private static void lines(TransportPair pair, int id) {
        pair.feed(1, 2, 3, 4, 5);
        check.due("write", pair.write(0, id), 20);
        check.isTrue("finish", pair.finish(0, id));
        pair.tick(1);
        check.due("datagrams", pair.line(0, 0), 1);
        check.due("bytes of it", pair.at(0, 0, -1), 55);
        check.due("twice", pair.twice(0, 0), 2);
        int was = pair.at(0, 0, 30);
        check.due("alter", pair.alter(0, 0, 30, 255), was ^ 255);
        pair.deliver(0, 0);
        check.due("no stream yet", pair.stream(1, id, 10), -1);
        pair.drop(0, 0);
        check.due("nothing is there", pair.line(0, 0), 0);
        pair.flow(5);
        pair.tick(300);
        check.due("all is there", pair.stream(1, id, 8), 2);
    }

    private static void stream(TransportPair pair, int id) {
        int size = pair.read(1, id, 100);
        long first = pair.outs(0);
        long last = pair.outs(16);
        check.due("read", size, 20);
        check.due("its first bytes", first, 0x200000001000000L);
        check.due("its last bytes", last, 0x5000000L);
        check.isTrue("close", pair.close(0, 42));
        check.due("state of side 0", pair.look(0, 0), 3);
        check.due("reason of side 0", pair.look(0, 1), 30042);
        pair.tick(6);
        check.due("state of side 1", pair.look(1, 0), 4);
        check.due("reason of side 1", pair.look(1, 1), 20042);
        pair.tick(1000);
        check.due("state of side 0", pair.look(0, 0), 5);
        check.due("state of side 1", pair.look(1, 0), 5);
    }

    /** Each call of the page is made above. */
    private static void allOfIt() throws Exception {
        String here = Files.readString(Path.of("src/test/java/ReadmeTest.java"));
        boolean isCode = false;
        int calls = 0;
        for (String row : Files.readAllLines(Path.of("README.md"))) {
            if (row.startsWith("```")) {
                isCode = row.equals("```java");
                continue;
            }
            int from = row.indexOf("pair.");
            if (isCode && from >= 0) {
                String call = row.substring(from, row.indexOf(';', from));
                check.isTrue("README.md: " + call + " is looked at", here.contains(call));
                calls++;
            }
        }
        check.due("calls of README.md", calls, 35);
    }
}
