import java.util.ArrayList;
import java.util.Arrays;
import java.util.Comparator;
import java.util.List;

/**
 * Packs as the document says, in the slowest and plainest way: matches by trying every place, lists
 * with their items as objects, symbols by written tables, bits as texts.
 */
final class Model {
    static final int[] LENGTH_BASE = {
        3, 4, 5, 6, 7, 8, 9, 10, 11, 13, 15, 17, 19, 23, 27, 31, 35, 43, 51, 59, 67, 83, 99, 115, 131,
        163, 195, 227, 258
    };
    static final int[] LENGTH_EXTRA = {
        0, 0, 0, 0, 0, 0, 0, 0, 1, 1, 1, 1, 2, 2, 2, 2, 3, 3, 3, 3, 4, 4, 4, 4, 5, 5, 5, 5, 0
    };
    static final int[] DISTANCE_BASE = {
        1, 2, 3, 4, 5, 7, 9, 13, 17, 25, 33, 49, 65, 97, 129, 193, 257, 385, 513, 769, 1025, 1537,
        2049, 3073, 4097, 6145, 8193, 12289, 16385, 24577
    };
    static final int[] DISTANCE_EXTRA = {
        0, 0, 0, 0, 1, 1, 2, 2, 3, 3, 4, 4, 5, 5, 6, 6, 7, 7, 8, 8, 9, 9, 10, 10, 11, 11, 12, 12, 13, 13
    };
    private static final int[] ORDER = {
        16, 17, 18, 0, 8, 7, 9, 6, 10, 5, 11, 4, 12, 3, 13, 2, 14, 1, 15
    };

    /** How often each sort was chosen, so that a test can see that it reached all of them. */
    static final int[] chosen = new int[3];

    /** How often stored took just as many bits as the next best, and fixed as many as made. */
    static final int[] ties = new int[2];

    /** How often the limit 7 made other lengths than 15 would. */
    static int limited;

    private Model() {
    }

    static byte[] image(byte[] row, boolean plain) {
        byte[] image = new byte[0];
        for (int from = 0; from < row.length; from += 8192) {
            byte[] piece = Arrays.copyOfRange(row, from, Math.min(row.length, from + 8192));
            byte[] packed = plain ? piece : pack(piece);
            boolean shorter = packed.length < piece.length;
            image = Images.joined(
                image, shorter ? Images.packedPiece(packed) : Images.plainPiece(piece));
        }
        return image;
    }

    static byte[] pack(byte[] row) {
        Bits bits = new Bits();
        for (int from = 0; from < row.length; from += 4096) {
            int to = Math.min(row.length, from + 4096);
            addPart(bits, row, from, to);
        }
        return Images.packed(120, 156, bits.bytes(), row);
    }

    private static void addPart(Bits bits, byte[] row, int from, int to) {
        Bits[] sorts = sorts(bits.length(), row, from, to);
        int stored = sorts[0].length();
        int fixed = sorts[1].length();
        int made = sorts[2].length();
        ties[0] += stored == Math.min(fixed, made) ? 1 : 0;
        ties[1] += fixed == made && fixed < stored ? 1 : 0;
        int sort = stored <= fixed && stored <= made ? 0 : fixed <= made ? 1 : 2;
        chosen[sort]++;
        bits.add(sorts[sort]);
    }

    /** A part of the row in each sort, when so many bits stand before it. */
    static Bits[] sorts(int before, byte[] row, int from, int to) {
        List<int[]> tokens = tokens(row, from, to);
        int[] symbolCounts = new int[286];
        int[] distanceCounts = new int[30];
        symbolCounts[256] = 1;
        for (int[] token : tokens) {
            symbolCounts[token[0]]++;
            if (token.length > 1) {
                distanceCounts[token[3]]++;
            }
        }
        String last = to == row.length ? "1" : "0";
        Bits stored = new Bits().code(last).number(0, 2);
        while ((before + stored.length()) % 8 != 0) {
            stored.code("0");
        }
        stored.number(to - from, 16).number(65535 - (to - from), 16);
        for (int i = from; i < to; i++) {
            stored.number(row[i], 8);
        }

        int[] fixedLengths = new int[288];
        int[] fiveBits = new int[32];
        for (int s = 0; s < 288; s++) {
            fixedLengths[s] = Bits.fixed(s).length();
        }
        Arrays.fill(fiveBits, 5);
        Bits fixed = new Bits().code(last).number(1, 2).add(told(tokens, fixedLengths, fiveBits));

        int[] symbolLengths = lengths(symbolCounts, 15);
        int[] distanceLengths = lengths(distanceCounts, 15);
        Bits made = new Bits().code(last).number(2, 2);
        made.add(header(symbolLengths, distanceLengths));
        made.add(told(tokens, symbolLengths, distanceLengths));
        return new Bits[] {stored, fixed, made};
    }

    /** A byte alone, or: symbol, length, distance, the distance's symbol. */
    private static List<int[]> tokens(byte[] row, int from, int to) {
        List<int[]> tokens = new ArrayList<>();
        int p = from;
        while (p < to) {
            int bestLength = 0;
            int bestDistance = 0;
            int candidates = 0;
            for (int q = p - 1; q >= 0 && p + 3 <= to && candidates < 16; q--) {
                if (row[q] == row[p] && row[q + 1] == row[p + 1] && row[q + 2] == row[p + 2]) {
                    candidates++;
                    int length = 3;
                    while (length < 258 && p + length < to && row[q + length] == row[p + length]) {
                        length++;
                    }
                    if (length > bestLength) {
                        bestLength = length;
                        bestDistance = p - q;
                    }
                }
            }
            if (bestLength == 0) {
                tokens.add(new int[] {row[p] & 255});
                p++;
            } else {
                tokens.add(new int[] {
                    257 + lastNotAbove(LENGTH_BASE, bestLength), bestLength, bestDistance,
                    lastNotAbove(DISTANCE_BASE, bestDistance)
                });
                p += bestLength;
            }
        }
        return tokens;
    }

    private static int lastNotAbove(int[] bases, int value) {
        int at = 0;
        for (int i = 0; i < bases.length; i++) {
            if (bases[i] <= value) {
                at = i;
            }
        }
        return at;
    }

    private static Bits told(List<int[]> tokens, int[] symbolLengths, int[] distanceLengths) {
        String[] symbols = codes(symbolLengths);
        String[] distances = codes(distanceLengths);
        Bits bits = new Bits();
        for (int[] t : tokens) {
            bits.code(symbols[t[0]]);
            if (t.length > 1) {
                int s = t[0] - 257;
                bits.number(t[1] - LENGTH_BASE[s], LENGTH_EXTRA[s]);
                bits.code(distances[t[3]]);
                bits.number(t[2] - DISTANCE_BASE[t[3]], DISTANCE_EXTRA[t[3]]);
            }
        }
        return bits.code(symbols[256]);
    }

    static String[] codes(int[] lengths) {
        String[] codes = new String[lengths.length];
        int next = 0;
        for (int length = 1; length <= 15; length++) {
            next *= 2;
            for (int s = 0; s < lengths.length; s++) {
                if (lengths[s] == length) {
                    codes[s] = Bits.binary(next++, length);
                }
            }
        }
        return codes;
    }

    private record Item(int count, int symbol, Item one, Item two) {
        void take(int[] lengths) {
            if (one == null) {
                lengths[symbol]++;
            } else {
                one.take(lengths);
                two.take(lengths);
            }
        }
    }

    static int[] lengths(int[] counts, int limit) {
        return lengths(counts, limit, false);
    }

    /** Not what the document says: pairs before symbols. It shows at which counts the order tells. */
    static int[] lengthsPairsFirst(int[] counts, int limit) {
        return lengths(counts, limit, true);
    }

    private static int[] lengths(int[] counts, int limit, boolean pairsFirst) {
        int[] lengths = new int[counts.length];
        List<Item> symbols = new ArrayList<>();
        for (int s = 0; s < counts.length; s++) {
            if (counts[s] > 0) {
                symbols.add(new Item(counts[s], s, null, null));
            }
        }
        if (symbols.size() == 1) {
            symbols.get(0).take(lengths);
        }
        if (symbols.size() < 2) {
            return lengths;
        }
        symbols.sort(Comparator.comparingInt(Item::count));
        List<Item> list = new ArrayList<>(symbols);
        for (int k = 1; k < limit; k++) {
            List<Item> pairs = new ArrayList<>();
            for (int i = 0; i + 1 < list.size(); i += 2) {
                Item one = list.get(i);
                Item two = list.get(i + 1);
                pairs.add(new Item(one.count() + two.count(), -1, one, two));
            }
            // sorting leaves the same ones in the order in which they came
            List<Item> next = new ArrayList<>(pairsFirst ? pairs : symbols);
            next.addAll(pairsFirst ? symbols : pairs);
            next.sort(Comparator.comparingInt(Item::count));
            list = next;
        }
        for (int i = 0; i < 2 * symbols.size() - 2; i++) {
            list.get(i).take(lengths);
        }
        return lengths;
    }

    private static Bits header(int[] symbolLengths, int[] distanceLengths) {
        int h = 29;
        while (h > 0 && symbolLengths[256 + h] == 0) {
            h--;
        }
        int d = 29;
        while (d > 0 && distanceLengths[d] == 0) {
            d--;
        }
        List<Integer> row = new ArrayList<>();
        for (int s = 0; s < 257 + h; s++) {
            row.add(symbolLengths[s]);
        }
        for (int s = 0; s < 1 + d; s++) {
            row.add(distanceLengths[s]);
        }
        List<int[]> told = toldRow(row);
        int[] counts = new int[19];
        for (int[] t : told) {
            counts[t[0]]++;
        }
        int[] lengths = lengths(counts, 7);
        if (!Arrays.equals(lengths, lengths(counts, 15))) {
            limited++;
        }
        String[] codes = codes(lengths);
        int c = 15;
        while (c > 0 && lengths[ORDER[c + 3]] == 0) {
            c--;
        }
        Bits bits = new Bits().number(h, 5).number(d, 5).number(c, 4);
        for (int i = 0; i < c + 4; i++) {
            bits.number(lengths[ORDER[i]], 3);
        }
        for (int[] t : told) {
            bits.code(codes[t[0]]).number(t[1], t[2]);
        }
        return bits;
    }

    /** Each: what is told, and the number behind it with its bits. */
    private static List<int[]> toldRow(List<Integer> row) {
        List<int[]> told = new ArrayList<>();
        int i = 0;
        while (i < row.size()) {
            int length = row.get(i);
            int left = 0;
            while (i < row.size() && row.get(i) == length) {
                left++;
                i++;
            }
            if (length == 0) {
                while (left >= 11) {
                    int n = Math.min(138, left);
                    told.add(new int[] {18, n - 11, 7});
                    left -= n;
                }
                if (left >= 3) {
                    told.add(new int[] {17, left - 3, 3});
                    left = 0;
                }
            } else {
                told.add(new int[] {length, 0, 0});
                left--;
                while (left >= 3) {
                    int n = Math.min(6, left);
                    told.add(new int[] {16, n - 3, 2});
                    left -= n;
                }
            }
            for (; left > 0; left--) {
                told.add(new int[] {length, 0, 0});
            }
        }
        return told;
    }
}
