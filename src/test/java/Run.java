import java.util.ArrayList;
import java.util.List;

/**
 * A PieceRow that is never called more than 512 times, as the document promises nothing behind that:
 * before the 513th call a new one is brought to the same state by all calls that may have changed it.
 */
final class Run {
    private static final int LIMIT = 512;

    private interface Call {
        long on(PieceRow row);
    }

    private record Change(Call call, long answer) {
    }

    private final List<Change> changes = new ArrayList<>();
    private PieceRow row = new PieceRow();
    private int calls;

    private void renewIfUsedUp() {
        if (calls < LIMIT) {
            return;
        }
        if (changes.size() >= LIMIT) {
            throw new IllegalStateException("the run is too long for one object");
        }
        row = new PieceRow();
        for (Change change : changes) {
            if (change.call.on(row) != change.answer) {
                throw new IllegalStateException("the same calls, but not the same answers");
            }
        }
        calls = changes.size();
    }

    private long ask(Call call) {
        renewIfUsedUp();
        calls++;
        return call.on(row);
    }

    /** Refused calls too are done again: a class that changes something by them must not get away. */
    private long change(Call call) {
        long answer = ask(call);
        changes.add(new Change(call, answer));
        return answer;
    }

    void begin(boolean plain) {
        change(x -> {
            x.begin(plain);
            return 0;
        });
    }

    int put(long bytes, int n) {
        return (int) change(x -> x.put(bytes, n));
    }

    int fill(int kind, int b, int n) {
        return (int) change(x -> x.fill(kind, b, n));
    }

    long reference() {
        return ask(PieceRow::reference);
    }

    int close() {
        return (int) change(PieceRow::close);
    }

    int size(int what) {
        return (int) ask(x -> x.size(what));
    }

    long word(int i) {
        return ask(x -> x.word(i));
    }

    int patch(int i, int b) {
        return (int) change(x -> x.patch(i, b));
    }

    int cut(int n) {
        return (int) change(x -> x.cut(n));
    }

    int read() {
        return (int) change(PieceRow::read);
    }

    int byteAt(long reference) {
        return (int) ask(x -> x.byteAt(reference));
    }

    int start(int i) {
        return (int) ask(x -> x.start(i));
    }

    /** Puts bytes behind the row, eight a call. */
    void putAll(byte[] bytes) {
        putAll(bytes, 0);
    }

    void putAll(byte[] bytes, int from) {
        for (int i = from; i < bytes.length; i += 8) {
            int n = Math.min(8, bytes.length - i);
            long eight = 0;
            for (int k = 0; k < n; k++) {
                eight |= (bytes[i + k] & 255L) << (8 * k);
            }
            put(eight, n);
        }
    }

    /** The whole image. */
    byte[] image() {
        byte[] image = new byte[size(0)];
        long word = 0;
        for (int i = 0; i < image.length; i++) {
            word = i % 8 == 0 ? word(i / 8) : word >>> 8;
            image[i] = (byte) word;
        }
        return image;
    }
}
