import java.nio.file.Files;
import java.nio.file.Path;
import java.util.List;
import java.util.NoSuchElementException;

/**
 * Runs of random calls, each with the answer that a second program, written from the document alone, gave.
 * A file has a row a call: its name and arguments, and behind "=" the answer or the exception; "new" begins a run,
 * and "tape n s" stands for the calls that make Pairs.row(n, s) the tape.
 */
public final class RecordedRunsTest {
    public static void main(String[] args) throws Exception {
        Check check = new Check();
        replay(check, Files.readAllLines(Path.of("src/test/data/short-runs.txt")));
        replay(check, Files.readAllLines(Path.of("src/test/data/long-runs.txt")));
        check.end();
    }

    private static void replay(Check check, List<String> rows) {
        TransportPair x = null;
        int run = 0;
        for (String row : rows) {
            if (row.equals("new")) {
                x = new TransportPair();
                run++;
                continue;
            }
            String[] halves = row.split(" = ");
            String got = answer(x, halves[0].split(" "));
            check.isTrue("run " + run + ": " + row + ": answered " + got, got.equals(halves[1]));
        }
    }

    private static String answer(TransportPair x, String[] words) {
        int[] a = new int[5];
        for (int i = 1; i < words.length; i++) {
            a[i - 1] = Integer.parseInt(words[i]);
        }
        try {
            return Long.toString(called(x, words[0], a));
        } catch (IllegalArgumentException | IllegalStateException | NoSuchElementException e) {
            return e.getClass().getSimpleName();
        }
    }

    private static long one(boolean answer) {
        return answer ? 1 : 0;
    }

    static long called(TransportPair x, String name, int[] a) {
        switch (name) {
            case "tape": Pairs.tape(x, Pairs.row(a[0], a[1])); return 0;
            case "feed": return x.feed(a[0], a[1], a[2], a[3], a[4]);
            case "end": return x.end(a[0]);
            case "key": x.key(a[0]); return 0;
            case "random": x.random(a[0]); return 0;
            case "parameter": x.parameter(a[0], a[1], a[2]); return 0;
            case "begin": x.begin(); return 0;
            case "open": return x.open(a[0], a[1] != 0);
            case "write": return x.write(a[0], a[1]);
            case "finish": return one(x.finish(a[0], a[1]));
            case "reset": return one(x.reset(a[0], a[1], a[2]));
            case "stop": return one(x.stop(a[0], a[1], a[2]));
            case "read": return x.read(a[0], a[1], a[2]);
            case "outs": return x.outs(a[0]);
            case "close": return one(x.close(a[0], a[1]));
            case "raw": x.raw(a[0]); return 0;
            case "deliver": return x.deliver(a[0], a[1]);
            case "drop": return x.drop(a[0], a[1]);
            case "twice": return x.twice(a[0], a[1]);
            case "alter": return x.alter(a[0], a[1], a[2], a[3]);
            case "flow": x.flow(a[0]); return 0;
            case "tick": return x.tick(a[0]);
            case "line": return x.line(a[0], a[1]);
            case "at": return x.at(a[0], a[1], a[2]);
            case "look": return x.look(a[0], a[1]);
            case "book": return x.book(a[0], a[1]);
            case "space": return x.space(a[0], a[1], a[2]);
            case "stream": return x.stream(a[0], a[1], a[2]);
            case "streams": return x.streams(a[0], a[1]);
            default: throw new UnsupportedOperationException(name);
        }
    }
}
