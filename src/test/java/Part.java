import java.util.ArrayList;
import java.util.Arrays;
import java.util.HashMap;
import java.util.List;
import java.util.Map;

/** A part of a packed row that is without a fault, and what it tells. */
final class Part {
    private static final int[] ORDER = {
        16, 17, 18, 0, 8, 7, 9, 6, 10, 5, 11, 4, 12, 3, 13, 2, 14, 1, 15
    };

    boolean last;
    int sort;
    int firstBit;
    int endBit;
    byte[] stored = {};
    int h;
    int d;
    int c;
    final int[] nineteen = new int[19];
    final int[] toldCounts = new int[19];
    /** What tells the lengths: a length alone, or as 18x138 how often 16, 17 or 18 takes it. */
    final List<String> told = new ArrayList<>();
    int[] symbolLengths;
    int[] distanceLengths;
    final int[] symbolCounts = new int[288];
    final int[] distanceCounts = new int[32];
    /** A byte alone, or length@distance; a length symbol that is not the due one has an exclamation mark. */
    final List<String> tokens = new ArrayList<>();

    private Part() {
    }

    String tokens() {
        return String.join(" ", tokens);
    }

    String told() {
        return String.join(" ", told);
    }

    /** All parts of the packed row that stands from a place on; a broken one ends with an exception. */
    static List<Part> allOf(byte[] image, int from) {
        Reader in = new Reader(image, from);
        in.at += 16;
        List<Part> parts = new ArrayList<>();
        boolean last = false;
        while (!last) {
            Part part = new Part();
            part.firstBit = in.at - 8 * from;
            part.read(in);
            part.endBit = in.at - 8 * from;
            parts.add(part);
            last = part.last;
        }
        return parts;
    }

    private void read(Reader in) {
        last = in.number(1) == 1;
        sort = in.number(2);
        if (sort == 0) {
            readStored(in);
            return;
        }
        if (sort == 1) {
            fix();
        } else {
            make(in);
        }
        readTokens(in);
    }

    private void readStored(Reader in) {
        while (in.at % 8 != 0) {
            in.at++;
        }
        stored = new byte[in.number(16)];
        in.number(16);
        for (int i = 0; i < stored.length; i++) {
            stored[i] = (byte) in.number(8);
        }
    }

    private void fix() {
        symbolLengths = new int[288];
        for (int s = 0; s < 288; s++) {
            symbolLengths[s] = Bits.fixed(s).length();
        }
        distanceLengths = new int[32];
        Arrays.fill(distanceLengths, 5);
    }

    private void make(Reader in) {
        h = in.number(5);
        d = in.number(5);
        c = in.number(4);
        for (int i = 0; i < c + 4; i++) {
            nineteen[ORDER[i]] = in.number(3);
        }
        Map<String, Integer> codes = symbolsByCode(nineteen);
        int[] row = new int[h + 257 + d + 1];
        int at = 0;
        while (at < row.length) {
            int s = in.symbol(codes);
            toldCounts[s]++;
            int times = s == 16 ? 3 + in.number(2) : s == 17 ? 3 + in.number(3) : s == 18 ? 11 + in.number(7) : 1;
            told.add(s < 16 ? "" + s : s + "x" + times);
            int length = s < 16 ? s : s == 16 ? row[at - 1] : 0;
            for (; times > 0; times--) {
                row[at++] = length;
            }
        }
        symbolLengths = Arrays.copyOf(row, h + 257);
        distanceLengths = Arrays.copyOfRange(row, h + 257, row.length);
    }

    private void readTokens(Reader in) {
        Map<String, Integer> symbols = symbolsByCode(symbolLengths);
        Map<String, Integer> distances = symbolsByCode(distanceLengths);
        int s = in.symbol(symbols);
        symbolCounts[s]++;
        while (s != 256) {
            if (s < 256) {
                tokens.add("" + s);
            } else {
                int length = Model.LENGTH_BASE[s - 257] + in.number(Model.LENGTH_EXTRA[s - 257]);
                int t = in.symbol(distances);
                distanceCounts[t]++;
                int distance = Model.DISTANCE_BASE[t] + in.number(Model.DISTANCE_EXTRA[t]);
                tokens.add(length + "@" + distance + (length == 258 && s != 285 ? "!" : ""));
            }
            s = in.symbol(symbols);
            symbolCounts[s]++;
        }
    }

    private static Map<String, Integer> symbolsByCode(int[] lengths) {
        String[] codes = Model.codes(lengths);
        Map<String, Integer> symbols = new HashMap<>();
        for (int s = 0; s < codes.length; s++) {
            if (codes[s] != null) {
                symbols.put(codes[s], s);
            }
        }
        return symbols;
    }

    private static final class Reader {
        private final byte[] row;
        private int at;

        Reader(byte[] row, int from) {
            this.row = row;
            at = 8 * from;
        }

        int number(int k) {
            int value = 0;
            for (int i = 0; i < k; i++) {
                value += (row[at / 8] >> (at % 8) & 1) << i;
                at++;
            }
            return value;
        }

        int symbol(Map<String, Integer> symbols) {
            String code = "";
            while (!symbols.containsKey(code)) {
                code += number(1);
                if (code.length() > 15) {
                    throw new IllegalStateException("no code: " + code);
                }
            }
            return symbols.get(code);
        }
    }
}
