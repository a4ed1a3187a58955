import java.util.Map;
import java.util.Random;
import java.util.TreeMap;

/** All promises together: runs of 512 calls in any order, each answered as the model answers it. */
public final class CallsTest {
    private static final int RUNS = 120;
    private static final int CALLS = 512;
    private static final int[] EDGES = {
        Integer.MIN_VALUE, -65536, -1, 0, 1, 2, 3, 7, 8, 9, 8191, 8192, 8193, 8194, 8195, 65535, 65536, 65537,
        1 << 29, Integer.MAX_VALUE
    };
    private static final Due DUE = new Due();
    private static final Map<Integer, Integer> REFUSED = new TreeMap<>();

    private final Random random;
    private final PieceRow x = new PieceRow();
    private final RowModel model = new RowModel();
    private final int longest;
    private final String name;
    private int calls;

    private CallsTest(int run) {
        random = new Random(run);
        name = "run " + run + ", ";
        longest = run % 20 == 0 ? 65536 : run % 10 == 1 ? 9000 : 600;
    }

    public static void main(String[] args) {
        for (int run = 0; run < RUNS; run++) {
            CallsTest test = new CallsTest(run);
            while (test.calls < CALLS) {
                test.call();
            }
        }
        System.out.println("answers below 0 and how often they came: " + REFUSED);
        for (int answer : new int[] {-1, -2, -3, -11, -12}) {
            DUE.holds(answer + " was reached often", REFUSED.getOrDefault(answer, 0) > 20);
        }
        DUE.end();
    }

    private void same(String call, long got, long want) {
        calls++;
        DUE.is(name + "call " + calls + ": " + call, got, want);
        // a word may have any value
        if (want < 0 && !call.startsWith("word")) {
            REFUSED.merge((int) want, 1, Integer::sum);
        }
    }

    /** Refused arguments must come as well, but not so often that nothing else does. */
    private int orEdge(int usual) {
        return random.nextInt(12) == 0 ? EDGES[random.nextInt(EDGES.length)] : usual;
    }

    private void call() {
        switch (random.nextInt(20)) {
            case 0, 1, 2 -> put();
            case 3, 4, 5 -> fill();
            case 6 -> reference();
            case 7, 8 -> close();
            case 9 -> size();
            case 10, 11 -> word();
            case 12 -> patch();
            case 13 -> cut();
            case 14, 15 -> read();
            case 16, 17 -> byteAt();
            case 18 -> start();
            default -> begin();
        }
    }

    private void begin() {
        boolean plain = random.nextInt(3) == 0;
        x.begin(plain);
        model.begin(plain);
        calls++;
    }

    private void put() {
        long bytes = random.nextLong();
        int n = orEdge(1 + random.nextInt(8));
        same("put(" + bytes + ", " + n + ")", x.put(bytes, n), model.put(bytes, n));
    }

    private void fill() {
        int kind = orEdge(random.nextInt(3));
        int b = random.nextInt();
        int n = orEdge(1 + random.nextInt(longest));
        same("fill(" + kind + ", " + b + ", " + n + ")", x.fill(kind, b, n), model.fill(kind, b, n));
    }

    private void reference() {
        same("reference()", x.reference(), model.reference());
    }

    private void close() {
        same("close()", x.close(), model.close());
    }

    private void size() {
        int what = orEdge(random.nextInt(3));
        same("size(" + what + ")", x.size(what), model.size(what));
    }

    private void word() {
        int i = orEdge(random.nextInt(model.size(0) / 8 + 2));
        same("word(" + i + ")", x.word(i), model.word(i));
    }

    private void patch() {
        int any = random.nextInt(model.size(0) + 1);
        int i = orEdge(random.nextBoolean() ? any : Math.min(any, random.nextInt(40)));
        int b = random.nextInt();
        int was = model.patch(i, b);
        same("patch(" + i + ", " + b + ")", x.patch(i, b), was);
        if (was >= 0 && calls + 2 <= CALLS && random.nextBoolean()) {
            // so that a fault does not stay up to the next begin()
            read();
            same("patch(" + i + ", " + was + ")", x.patch(i, was), model.patch(i, was));
        }
    }

    private void cut() {
        int size = model.size(0);
        boolean few = random.nextBoolean();
        int n = orEdge(few ? Math.max(0, size - random.nextInt(4)) : random.nextInt(size + 1));
        same("cut(" + n + ")", x.cut(n), model.cut(n));
    }

    private void read() {
        same("read()", x.read(), model.read());
    }

    private void byteAt() {
        long start = model.start(random.nextInt(model.size(2) + 1));
        long reference = 65536 * start + orEdge(random.nextInt(8192));
        long at = random.nextInt(20) == 0 ? reference << random.nextInt(40) : reference;
        same("byteAt(" + at + ")", x.byteAt(at), model.byteAt(at));
    }

    private void start() {
        int i = orEdge(random.nextInt(model.size(2) + 1));
        same("start(" + i + ")", x.start(i), model.start(i));
    }
}
