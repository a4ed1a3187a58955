import java.util.Arrays;

/**
 * A row of metadata in pieces, as it stands in a compressed file system for reading only: bytes are
 * put one behind the other, whatever is put is told by a reference, pieces are packed as they get
 * full; any bytes are read as pieces, and what does not hold is told.
 */
public final class PieceRow {
    public static final int BAD = -1, NONE = -2, FULL = -3;

    private static final int ROW_LIMIT = 65536;
    private static final int PIECE_LIMIT = 8192;
    private static final int PIECES_LIMIT = 8;
    private static final int IMAGE_LIMIT = 66000;
    private static final int AS_IT_IS = 32768;
    private static final int FAULT_BASE = -10;
    private static final int FAULT_HEADS = 1;
    private static final int FAULT_PIECES = 2;

    private static final int PART_LIMIT = 4096;
    private static final int SHORTEST_MATCH = 3;
    private static final int LONGEST_MATCH = 258;
    private static final int CODE_LIMIT = 15;
    private static final int LENGTH_CODE_LIMIT = 7;
    private static final int END_OF_PART = 256;
    private static final int LAST_SYMBOL = 285;
    private static final int LAST_DISTANCE = 29;
    private static final int FIXED_SYMBOLS = 288;
    private static final int FIXED_DISTANCES = 32;
    private static final int LENGTH_SYMBOLS = 19;
    private static final int LENGTHS_LIMIT = 320;
    private static final int STORED = 0, FIXED = 1, MADE = 2;
    private static final int[] LENGTH_ORDER = {
        16, 17, 18, 0, 8, 7, 9, 6, 10, 5, 11, 4, 12, 3, 13, 2, 14, 1, 15
    };

    private final Bytes piece;
    private final Bytes image;
    private final Packer packer;
    private int pieces;
    private boolean plain;
    private boolean closed;

    private final Bytes known;
    private final int[] knownStarts;
    private final Unpacker unpacker;
    private int knownPieces;

    public PieceRow() {
        piece = new Bytes(PIECE_LIMIT);
        image = new Bytes(IMAGE_LIMIT);
        packer = new Packer(piece);
        known = new Bytes(ROW_LIMIT);
        knownStarts = new int[PIECES_LIMIT];
        unpacker = new Unpacker(image, known);
    }

    public void begin(boolean plain) {
        this.plain = plain;
        closed = false;
        pieces = 0;
        piece.keep(0);
        image.keep(0);
    }

    public int put(long bytes, int n) {
        if (n < 1 || n > 8 || closed) {
            return BAD;
        }
        if (n > ROW_LIMIT - openLength()) {
            return FULL;
        }
        for (int i = 0; i < n; i++) {
            piece.add((int) (bytes >>> (8 * i)));
            if (piece.length() == PIECE_LIMIT) {
                closePiece();
            }
        }
        return openLength();
    }

    public int fill(int kind, int b, int n) {
        if (kind < 0 || kind > 2 || n < 1 || n > ROW_LIMIT || closed) {
            return BAD;
        }
        if (n > ROW_LIMIT - openLength()) {
            return FULL;
        }
        int x = b;
        for (int i = 0; i < n; i++) {
            x = 1103515245 * x + 12345;
            piece.add(kind == 0 ? b : kind == 1 ? x >> 16 : 97 + (x >> 16 & 3));
            if (piece.length() == PIECE_LIMIT) {
                closePiece();
            }
        }
        return openLength();
    }

    public long reference() {
        return closed ? BAD : 65536L * image.length() + piece.length();
    }

    public int close() {
        if (closed) {
            return BAD;
        }
        if (piece.length() > 0) {
            closePiece();
        }
        closed = true;
        return pieces;
    }

    public int size(int what) {
        switch (what) {
            case 0:
                return image.length();
            case 1:
                return known.length();
            case 2:
                return knownPieces;
            default:
                return BAD;
        }
    }

    public long word(int i) {
        // looked at first, so that 8 i does not wrap round
        if (i < 0 || i > IMAGE_LIMIT / 8) {
            return 0;
        }
        long word = 0;
        for (int k = 0; k < 8; k++) {
            word |= (long) image.at(8 * i + k) << (8 * k);
        }
        return word;
    }

    public int patch(int i, int b) {
        if (!closed) {
            return BAD;
        }
        if (i < 0 || i >= image.length()) {
            return NONE;
        }
        int was = image.at(i);
        image.set(i, b);
        return was;
    }

    public int cut(int n) {
        int length = image.length();
        if (n < 0 || n > length || !closed) {
            return BAD;
        }
        image.keep(n);
        return length - n;
    }

    public int read() {
        if (!closed) {
            return BAD;
        }
        known.keep(0);
        knownPieces = 0;
        int count = findPieces();
        if (count < 0) {
            return FAULT_BASE - FAULT_HEADS;
        }
        if (!readPieces(count)) {
            known.keep(0);
            return FAULT_BASE - FAULT_PIECES;
        }
        knownPieces = count;
        return known.length();
    }

    public int byteAt(long reference) {
        long start = reference >> 16;
        int place = (int) (reference & 65535);
        for (int i = 0; i < knownPieces && i < PIECES_LIMIT; i++) {
            if (knownStarts[i] == start) {
                int at = PIECE_LIMIT * i + place;
                return place < PIECE_LIMIT && at < known.length() ? known.at(at) : NONE;
            }
        }
        return NONE;
    }

    public int start(int i) {
        return i >= 0 && i < knownPieces && i < PIECES_LIMIT ? knownStarts[i] : NONE;
    }

    /** How many bytes a row has that is not closed: till then all its closed pieces are full. */
    private int openLength() {
        return PIECE_LIMIT * pieces + piece.length();
    }

    private void closePiece() {
        int length = piece.length();
        int packed = plain ? length : packer.pack();
        if (packed < length) {
            addHead(packed);
            packer.copyTo(image);
        } else {
            addHead(length + AS_IT_IS);
            image.addAll(piece, 0, length);
        }
        pieces++;
        piece.keep(0);
    }

    private void addHead(int head) {
        image.add(head);
        image.add(head >> 8);
    }

    private int headAt(int at) {
        return image.at(at) | image.at(at + 1) << 8;
    }

    private static int bytesTold(int head) {
        return head & (AS_IT_IS - 1);
    }

    /** How many pieces the heads tell, or -1 if one of them does not hold. */
    private int findPieces() {
        int count = 0;
        int at = 0;
        while (at < image.length()) {
            int n = bytesTold(headAt(at));
            if (n < 1 || n > PIECE_LIMIT || at + 2 + n > image.length()) {
                return -1;
            }
            if (count < PIECES_LIMIT) {
                knownStarts[count] = at;
            }
            count++;
            at += 2 + n;
        }
        return count;
    }

    private boolean readPieces(int count) {
        // with more of them either one before the last is not full, or all are too many bytes
        if (count > PIECES_LIMIT) {
            return false;
        }
        for (int i = 0; i < count; i++) {
            int before = known.length();
            int from = knownStarts[i] + 2;
            int head = headAt(knownStarts[i]);
            if (head >= AS_IT_IS) {
                known.addAll(image, from, bytesTold(head));
            } else if (!unpacker.unpack(from, bytesTold(head))) {
                return false;
            }
            int made = known.length() - before;
            if (made < 1 || (made < PIECE_LIMIT && i < count - 1)) {
                return false;
            }
        }
        return true;
    }

    /** The check of the bytes of a row from a place on. */
    private static int checkOf(Bytes row, int from) {
        int a = 1;
        int b = 0;
        for (int i = from; i < row.length(); i++) {
            a = (a + row.at(i)) % 65521;
            b = (b + a) % 65521;
        }
        return b << 16 | a;
    }

    private static int fixedLength(int symbol) {
        return symbol < 144 ? 8 : symbol < 256 ? 9 : symbol < 280 ? 7 : 8;
    }

    private static int lengthSymbol(int length) {
        if (length >= LONGEST_MATCH) {
            return LAST_SYMBOL;
        }
        int rest = length - SHORTEST_MATCH;
        int e = 0;
        while (e < 5 && rest >> e > 7) {
            e++;
        }
        return 257 + 4 * e + (rest >> e);
    }

    private static int lengthExtra(int symbol) {
        return symbol < 265 || symbol == LAST_SYMBOL ? 0 : (symbol - 261) / 4;
    }

    private static int lengthBase(int symbol) {
        if (symbol == LAST_SYMBOL) {
            return LONGEST_MATCH;
        }
        return symbol < 265
            ? symbol - 254
            : 3 + ((4 + (symbol - 261) % 4) << lengthExtra(symbol));
    }

    private static int distanceSymbol(int distance) {
        int rest = distance - 1;
        int e = 0;
        while (e < 13 && rest >> e > 3) {
            e++;
        }
        return 2 * e + (rest >> e);
    }

    private static int distanceExtra(int symbol) {
        return symbol < 4 ? 0 : symbol / 2 - 1;
    }

    private static int distanceBase(int symbol) {
        return symbol < 4 ? symbol + 1 : 1 + ((2 + symbol % 2) << distanceExtra(symbol));
    }

    /** How many bits stand behind the code of one of the 19, to tell how often more. */
    private static int repeatExtra(int symbol) {
        return symbol == 16 ? 2 : symbol == 17 ? 3 : symbol == 18 ? 7 : 0;
    }

    private static int repeatBase(int symbol) {
        return symbol == 18 ? 11 : symbol >= 16 ? 3 : 1;
    }

    /** Bytes one behind the other, up to a limit; no index from outside gets to the array untested. */
    private static final class Bytes {
        private final byte[] data;
        private int length;

        Bytes(int limit) {
            data = new byte[Math.max(limit, 0)];
        }

        int length() {
            return length;
        }

        int at(int i) {
            return i >= 0 && i < length ? data[i] & 255 : 0;
        }

        void set(int i, int b) {
            if (i >= 0 && i < length) {
                data[i] = (byte) b;
            }
        }

        void add(int b) {
            if (length < data.length) {
                data[length] = (byte) b;
                length++;
            }
        }

        void addAll(Bytes other, int from, int n) {
            boolean there = from >= 0 && n >= 0 && n <= other.length - from;
            if (there && n <= data.length - length) {
                System.arraycopy(other.data, from, data, length, n);
                length += n;
            }
        }

        void keep(int n) {
            if (n >= 0 && n <= length) {
                length = n;
            }
        }
    }

    /** A row that is written bit by bit. */
    private static final class BitWriter {
        // a stored part adds less than eight bytes, and a piece has two parts at most
        private static final int LIMIT = PIECE_LIMIT + 64;

        private final byte[] data;
        private int length;
        private int open;
        private int openCount;

        BitWriter() {
            data = new byte[LIMIT];
        }

        void clear() {
            length = 0;
            open = 0;
            openCount = 0;
        }

        int length() {
            return length;
        }

        void number(int value, int k) {
            open |= value << openCount;
            openCount += k;
            while (openCount >= 8) {
                if (length < data.length) {
                    data[length] = (byte) open;
                    length++;
                }
                open >>>= 8;
                openCount -= 8;
            }
        }

        /** How many bits are left up to the end of a byte, when k more have been written. */
        int leftBehind(int k) {
            return -(openCount + k) & 7;
        }

        void align() {
            number(0, leftBehind(0));
        }

        void copyTo(Bytes target) {
            for (int i = 0; i < length && i < data.length; i++) {
                target.add(data[i]);
            }
        }
    }

    /** The matches in a row: places with the same hash of three bytes stand in one chain. */
    private static final class Matches {
        private static final int CANDIDATES = 16;
        private static final int HASH_BITS = 12;

        private final Bytes row;
        // both tell a place plus one, so that 0 is none
        private final int[] latest;
        private final int[] before;

        Matches(Bytes row) {
            this.row = row;
            latest = new int[1 << HASH_BITS];
            before = new int[PIECE_LIMIT];
        }

        /** Chains all places of the row; a search begins at its own place, so later ones do no harm. */
        void chain() {
            Arrays.fill(latest, 0);
            for (int p = 0; p < row.length() && p < before.length; p++) {
                int three = row.at(p) | row.at(p + 1) << 8 | row.at(p + 2) << 16;
                int hash = three * -1640531535 >>> (32 - HASH_BITS);
                before[p] = latest[hash];
                latest[hash] = p + 1;
            }
        }

        /**
         * The best match at p, in a part up to an end, as 65536 * length + distance, or 0. A piece is
         * too short for a distance above 32768.
         */
        int best(int p, int end) {
            int most = Math.min(LONGEST_MATCH, end - p);
            if (most < SHORTEST_MATCH || p < 0 || p >= before.length) {
                return 0;
            }
            int length = 0;
            int distance = 0;
            int found = 0;
            int q = before[p] - 1;
            // behind the first one that is as long as can be none is better
            while (q >= 0 && q < p && found < CANDIDATES && length < most) {
                int same = sameBytes(q, p, most);
                if (same >= SHORTEST_MATCH) {
                    found++;
                    if (same > length) {
                        length = same;
                        distance = p - q;
                    }
                }
                q = Math.min(before[q], q) - 1;
            }
            return length << 16 | distance;
        }

        private int sameBytes(int q, int p, int most) {
            int same = 0;
            while (same < most && row.at(q + same) == row.at(p + same)) {
                same++;
            }
            return same;
        }
    }

    /** Codes for symbols, as they are written. */
    private static final class Code {
        private final int[] lengths;
        private final int[] codes;
        private final int[] next;

        Code(int symbols) {
            lengths = new int[Math.max(symbols, 0)];
            codes = new int[Math.max(symbols, 0)];
            next = new int[CODE_LIMIT + 1];
        }

        int lengthOf(int symbol) {
            return symbol >= 0 && symbol < lengths.length ? lengths[symbol] : 0;
        }

        /** Gives the codes that come from the lengths. */
        void assign() {
            Arrays.fill(next, 0);
            for (int s = 0; s < lengths.length; s++) {
                int length = lengths[s];
                if (length > 0 && length <= CODE_LIMIT) {
                    next[length]++;
                }
            }
            int first = 0;
            for (int length = 1; length <= CODE_LIMIT; length++) {
                int many = next[length];
                next[length] = first;
                first = (first + many) << 1;
            }
            for (int s = 0; s < lengths.length; s++) {
                int length = lengths[s];
                if (length > 0 && length <= CODE_LIMIT) {
                    codes[s] = turned(next[length], length);
                    next[length]++;
                }
            }
        }

        /** A code has its highest bit first, but what is written as a number its lowest. */
        private static int turned(int code, int length) {
            int turned = 0;
            for (int i = 0; i < length; i++) {
                turned = turned << 1 | (code >> i & 1);
            }
            return turned;
        }

        int bitsFor(int[] counts) {
            int bits = 0;
            for (int s = 0; s < lengths.length && s < counts.length; s++) {
                bits += lengths[s] * counts[s];
            }
            return bits;
        }

        void write(BitWriter out, int symbol) {
            if (symbol >= 0 && symbol < lengths.length && symbol < codes.length) {
                out.number(codes[symbol], lengths[symbol]);
            }
        }

        /** One more than the last symbol that has a code. */
        int used() {
            int used = lengths.length;
            while (used > 0 && lengths[used - 1] == 0) {
                used--;
            }
            return used;
        }
    }

    /** Finds lengths of codes for counts, by lists of symbols and pairs. */
    private static final class Lists {
        private static final int ITEMS_LIMIT = 2 * FIXED_SYMBOLS;

        private final int[] symbols;
        private final int[] counts;
        // pairs stand in their order, so it is enough to know which items of a list are pairs
        private final byte[][] pairs;
        private int[] items;
        private int[] itemsBefore;
        private int many;

        Lists() {
            symbols = new int[FIXED_SYMBOLS];
            counts = new int[FIXED_SYMBOLS];
            pairs = new byte[CODE_LIMIT][ITEMS_LIMIT];
            items = new int[ITEMS_LIMIT];
            itemsBefore = new int[ITEMS_LIMIT];
        }

        void fit(int[] countsOf, int limit, int[] lengths) {
            Arrays.fill(lengths, 0);
            sort(countsOf);
            if (many == 1) {
                addOne(lengths, symbols[0]);
            }
            if (many < 2) {
                return;
            }
            int size = 0;
            for (int list = 0; list < limit && list < CODE_LIMIT; list++) {
                size = makeList(list, size);
            }
            int taken = 2 * many - 2;
            for (int list = Math.min(limit, CODE_LIMIT) - 1; list >= 0; list--) {
                taken = take(list, taken, lengths);
            }
        }

        private void sort(int[] countsOf) {
            many = 0;
            for (int s = 0; s < countsOf.length && many < counts.length; s++) {
                if (countsOf[s] > 0) {
                    insert(s, countsOf[s]);
                }
            }
        }

        /** Only greater counts move, so that the same ones stay by number. */
        private void insert(int symbol, int count) {
            int at = many;
            while (at > 0 && at < counts.length && counts[at - 1] > count) {
                counts[at] = counts[at - 1];
                symbols[at] = symbols[at - 1];
                at--;
            }
            counts[at] = count;
            symbols[at] = symbol;
            many++;
        }

        /** Makes a list from the one before, which has so many items, and answers how many it has. */
        private int makeList(int list, int sizeBefore) {
            int[] made = itemsBefore;
            itemsBefore = items;
            items = made;
            int pairsLeft = sizeBefore / 2;
            int symbol = 0;
            int pair = 0;
            int size = 0;
            while (size < ITEMS_LIMIT && (symbol < many || pair < pairsLeft)) {
                int both = pair < pairsLeft ? itemsBefore[2 * pair] + itemsBefore[2 * pair + 1] : 0;
                boolean isPair = symbol >= many || (pair < pairsLeft && both < counts[symbol]);
                items[size] = isPair ? both : counts[symbol];
                pairs[list][size] = (byte) (isPair ? 1 : 0);
                symbol += isPair ? 0 : 1;
                pair += isPair ? 1 : 0;
                size++;
            }
            return size;
        }

        /** Takes the first items of a list and answers how many of the list before their pairs take. */
        private int take(int list, int taken, int[] lengths) {
            int symbol = 0;
            for (int i = 0; i < taken && i < ITEMS_LIMIT; i++) {
                if (pairs[list][i] == 0 && symbol < many) {
                    addOne(lengths, symbols[symbol]);
                    symbol++;
                }
            }
            return 2 * (taken - symbol);
        }

        private static void addOne(int[] lengths, int symbol) {
            if (symbol >= 0 && symbol < lengths.length) {
                lengths[symbol]++;
            }
        }
    }

    /** What a made part tells of its codes. */
    private static final class Header {
        private static final int EXTRA_UNIT = 32;

        private final Lists lists;
        private final int[] row;
        private final int[] told;
        private final int[] counts;
        private final Code code;
        private int rowLength;
        private int toldCount;
        private int symbolLengths;
        private int distanceLengths;
        private int codeLengths;

        Header(Lists lists) {
            this.lists = lists;
            row = new int[LENGTHS_LIMIT];
            told = new int[LENGTHS_LIMIT];
            counts = new int[LENGTH_SYMBOLS];
            code = new Code(LENGTH_SYMBOLS);
        }

        /** Plans how codes are told, and answers how many bits that takes. */
        int plan(Code symbols, Code distances) {
            gather(symbols, distances);
            tellRow();
            lists.fit(counts, LENGTH_CODE_LIMIT, code.lengths);
            code.assign();
            codeLengths = LENGTH_ORDER.length;
            while (codeLengths > 4 && code.lengthOf(LENGTH_ORDER[codeLengths - 1]) == 0) {
                codeLengths--;
            }
            int bits = 14 + 3 * codeLengths + code.bitsFor(counts);
            for (int s = 16; s < counts.length; s++) {
                bits += counts[s] * repeatExtra(s);
            }
            return bits;
        }

        private void gather(Code symbols, Code distances) {
            symbolLengths = Math.max(257, symbols.used());
            distanceLengths = Math.max(1, distances.used());
            rowLength = Math.min(symbolLengths + distanceLengths, row.length);
            for (int i = 0; i < rowLength; i++) {
                row[i] = i < symbolLengths
                    ? symbols.lengthOf(i)
                    : distances.lengthOf(i - symbolLengths);
            }
        }

        private void tellRow() {
            Arrays.fill(counts, 0);
            toldCount = 0;
            int i = 0;
            while (i < rowLength && i < row.length) {
                int stretch = 1;
                while (i + stretch < rowLength && row[i + stretch] == row[i]) {
                    stretch++;
                }
                tellStretch(row[i], stretch);
                i += stretch;
            }
        }

        private void tellStretch(int length, int stretch) {
            int left = stretch;
            if (length > 0) {
                tell(length, 0);
                left--;
            }
            while (left > 0) {
                int symbol = left < 3 ? length : length > 0 ? 16 : left < 11 ? 17 : 18;
                int most = symbol < 16 ? 1 : symbol == 16 ? 6 : symbol == 17 ? 10 : 138;
                int times = Math.min(left, most);
                tell(symbol, times - repeatBase(symbol));
                left -= times;
            }
        }

        private void tell(int symbol, int extra) {
            if (toldCount < told.length && symbol >= 0 && symbol < counts.length) {
                told[toldCount] = symbol + EXTRA_UNIT * extra;
                toldCount++;
                counts[symbol]++;
            }
        }

        void write(BitWriter out) {
            out.number(symbolLengths - 257, 5);
            out.number(distanceLengths - 1, 5);
            out.number(codeLengths - 4, 4);
            for (int i = 0; i < codeLengths && i < LENGTH_ORDER.length; i++) {
                out.number(code.lengthOf(LENGTH_ORDER[i]), 3);
            }
            for (int i = 0; i < toldCount && i < told.length; i++) {
                int symbol = told[i] % EXTRA_UNIT;
                code.write(out, symbol);
                out.number(told[i] / EXTRA_UNIT, repeatExtra(symbol));
            }
        }
    }

    /** Packs a row of at least one byte. */
    private static final class Packer {
        private final Bytes row;
        private final BitWriter out;
        private final Matches matches;
        private final Lists lists;
        private final Header header;
        // a token is a byte, or 65536 * length + distance
        private final int[] tokens;
        private final int[] symbolCounts;
        private final int[] distanceCounts;
        private final Code fixedSymbols;
        private final Code fixedDistances;
        private final Code madeSymbols;
        private final Code madeDistances;
        private int tokenCount;
        private int extraBits;

        Packer(Bytes row) {
            this.row = row;
            out = new BitWriter();
            matches = new Matches(row);
            lists = new Lists();
            header = new Header(lists);
            tokens = new int[PART_LIMIT];
            symbolCounts = new int[LAST_SYMBOL + 1];
            distanceCounts = new int[LAST_DISTANCE + 1];
            fixedSymbols = new Code(FIXED_SYMBOLS);
            fixedDistances = new Code(FIXED_DISTANCES);
            madeSymbols = new Code(LAST_SYMBOL + 1);
            madeDistances = new Code(LAST_DISTANCE + 1);
            for (int s = 0; s < fixedSymbols.lengths.length; s++) {
                fixedSymbols.lengths[s] = fixedLength(s);
            }
            Arrays.fill(fixedDistances.lengths, 5);
            fixedSymbols.assign();
            fixedDistances.assign();
        }

        /** Packs the row and answers how many bytes that makes. */
        int pack() {
            out.clear();
            matches.chain();
            out.number(120, 8);
            out.number(156, 8);
            for (int from = 0; from < row.length(); from += PART_LIMIT) {
                packPart(from, Math.min(from + PART_LIMIT, row.length()));
            }
            out.align();
            int check = checkOf(row, 0);
            for (int shift = 24; shift >= 0; shift -= 8) {
                out.number(check >>> shift & 255, 8);
            }
            return out.length();
        }

        void copyTo(Bytes target) {
            out.copyTo(target);
        }

        private void packPart(int from, int to) {
            collectTokens(from, to);
            lists.fit(symbolCounts, CODE_LIMIT, madeSymbols.lengths);
            lists.fit(distanceCounts, CODE_LIMIT, madeDistances.lengths);
            madeSymbols.assign();
            madeDistances.assign();
            int stored = out.leftBehind(3) + 32 + 8 * (to - from);
            int fixed = bitsWith(fixedSymbols, fixedDistances);
            int made = header.plan(madeSymbols, madeDistances) + bitsWith(madeSymbols, madeDistances);
            out.number(to == row.length() ? 1 : 0, 1);
            if (stored <= Math.min(fixed, made)) {
                out.number(STORED, 2);
                writeStored(from, to);
            } else if (fixed <= made) {
                out.number(FIXED, 2);
                writeTokens(fixedSymbols, fixedDistances);
            } else {
                out.number(MADE, 2);
                header.write(out);
                writeTokens(madeSymbols, madeDistances);
            }
        }

        private void collectTokens(int from, int to) {
            Arrays.fill(symbolCounts, 0);
            Arrays.fill(distanceCounts, 0);
            tokenCount = 0;
            extraBits = 0;
            int p = from;
            while (p < to) {
                int match = matches.best(p, to);
                addToken(match > 0 ? match : row.at(p));
                p += Math.max(1, match >> 16);
            }
            symbolCounts[END_OF_PART] = 1;
        }

        private void addToken(int token) {
            if (tokenCount < tokens.length) {
                tokens[tokenCount] = token;
                tokenCount++;
            }
            boolean isByte = token < 65536;
            int symbol = isByte ? token : lengthSymbol(token >> 16);
            if (symbol >= 0 && symbol < symbolCounts.length) {
                symbolCounts[symbol]++;
            }
            if (isByte) {
                return;
            }
            int distance = distanceSymbol(token & 65535);
            if (distance >= 0 && distance < distanceCounts.length) {
                distanceCounts[distance]++;
            }
            extraBits += lengthExtra(symbol) + distanceExtra(distance);
        }

        private int bitsWith(Code symbols, Code distances) {
            return symbols.bitsFor(symbolCounts) + distances.bitsFor(distanceCounts) + extraBits;
        }

        private void writeStored(int from, int to) {
            int n = to - from;
            out.align();
            out.number(n, 16);
            out.number(65535 - n, 16);
            for (int i = from; i < to; i++) {
                out.number(row.at(i), 8);
            }
        }

        private void writeTokens(Code symbols, Code distances) {
            for (int i = 0; i < tokenCount && i < tokens.length; i++) {
                if (tokens[i] < 65536) {
                    symbols.write(out, tokens[i]);
                    continue;
                }
                int length = tokens[i] >> 16;
                int symbol = lengthSymbol(length);
                symbols.write(out, symbol);
                out.number(length - lengthBase(symbol), lengthExtra(symbol));
                int distance = tokens[i] & 65535;
                int distanceSymbol = distanceSymbol(distance);
                distances.write(out, distanceSymbol);
                out.number(distance - distanceBase(distanceSymbol), distanceExtra(distanceSymbol));
            }
            symbols.write(out, END_OF_PART);
        }
    }

    /** Some bytes of a row, read bit by bit. */
    private static final class BitReader {
        private final Bytes row;
        private int at;
        private int end;

        BitReader(Bytes row) {
            this.row = row;
        }

        void open(int from, int n) {
            at = 8 * from;
            end = at + 8 * n;
        }

        int bitsLeft() {
            return end - at;
        }

        /** A number of k bits, or -1 if bits are missing. */
        int number(int k) {
            if (k < 0 || k > end - at) {
                return -1;
            }
            int value = 0;
            for (int i = 0; i < k; i++) {
                value |= (row.at(at >> 3) >> (at & 7) & 1) << i;
                at++;
            }
            return value;
        }

        void align() {
            at = (at + 7) & -8;
        }
    }

    /** Codes for symbols, as they are read. */
    private static final class Table {
        private final int[] counts;
        private final int[] offsets;
        private final int[] symbols;

        Table(int limit) {
            counts = new int[CODE_LIMIT + 1];
            offsets = new int[CODE_LIMIT + 1];
            symbols = new int[Math.max(limit, 0)];
        }

        /** Takes n lengths from a place on, and answers whether they make codes. */
        boolean make(int[] lengths, int from, int n, boolean mayBeNone) {
            if (from < 0 || n < 0 || n > symbols.length || n > lengths.length - from) {
                return false;
            }
            Arrays.fill(counts, 0);
            for (int s = 0; s < n; s++) {
                int length = lengths[from + s];
                if (length >= 0 && length <= CODE_LIMIT) {
                    counts[length]++;
                }
            }
            int used = n - counts[0];
            int free = 1;
            for (int length = 1; length <= CODE_LIMIT; length++) {
                free = 2 * free - counts[length];
                if (free < 0) {
                    return false;
                }
            }
            sort(lengths, from, n);
            return free == 0 || (used == 1 && counts[1] == 1) || (used == 0 && mayBeNone);
        }

        private void sort(int[] lengths, int from, int n) {
            int offset = 0;
            for (int length = 1; length <= CODE_LIMIT; length++) {
                offsets[length] = offset;
                offset += counts[length];
            }
            for (int s = 0; s < n && from + s < lengths.length; s++) {
                int length = lengths[from + s];
                if (length > 0 && length <= CODE_LIMIT && offsets[length] < symbols.length) {
                    symbols[offsets[length]] = s;
                    offsets[length]++;
                }
            }
        }

        /** The symbol whose code comes next, or -1 if there is none. */
        int next(BitReader in) {
            int code = 0;
            int first = 0;
            int offset = 0;
            for (int length = 1; length <= CODE_LIMIT; length++) {
                int bit = in.number(1);
                if (bit < 0) {
                    return -1;
                }
                code = code << 1 | bit;
                int place = offset + code - first;
                if (code - first < counts[length]) {
                    return place >= 0 && place < symbols.length ? symbols[place] : -1;
                }
                offset += counts[length];
                first = (first + counts[length]) << 1;
            }
            return -1;
        }
    }

    /** Reads packed rows from one row and puts what they hold behind another. */
    private static final class Unpacker {
        // each part and each symbol takes a bit at least
        private static final int BITS_LIMIT = 8 * PIECE_LIMIT;

        private final BitReader in;
        private final Bytes out;
        private final Table fixedSymbols;
        private final Table fixedDistances;
        private final Table madeSymbols;
        private final Table madeDistances;
        private final Table lengthCodes;
        private final int[] lengths;
        private int outStart;
        private int farthest;

        Unpacker(Bytes source, Bytes out) {
            in = new BitReader(source);
            this.out = out;
            fixedSymbols = new Table(FIXED_SYMBOLS);
            fixedDistances = new Table(FIXED_DISTANCES);
            madeSymbols = new Table(FIXED_SYMBOLS);
            madeDistances = new Table(FIXED_DISTANCES);
            lengthCodes = new Table(LENGTH_SYMBOLS);
            lengths = new int[LENGTHS_LIMIT];
            for (int s = 0; s < FIXED_SYMBOLS; s++) {
                lengths[s] = fixedLength(s);
            }
            fixedSymbols.make(lengths, 0, FIXED_SYMBOLS, false);
            Arrays.fill(lengths, 5);
            fixedDistances.make(lengths, 0, FIXED_DISTANCES, false);
        }

        /** Unpacks n bytes from a place on, and answers whether they are without a fault. */
        boolean unpack(int from, int n) {
            in.open(from, n);
            outStart = out.length();
            if (!beginningHolds()) {
                return false;
            }
            for (int part = 0; part < BITS_LIMIT; part++) {
                int last = in.number(1);
                int sort = in.number(2);
                if (last < 0 || sort < 0 || sort > MADE) {
                    return false;
                }
                boolean holds = sort == STORED
                    ? copyStored()
                    : sort == FIXED
                        ? followSymbols(fixedSymbols, fixedDistances)
                        : makeCodes() && followSymbols(madeSymbols, madeDistances);
                if (!holds) {
                    return false;
                }
                if (last == 1) {
                    return checkHolds();
                }
            }
            return false;
        }

        private boolean beginningHolds() {
            int x = in.number(8);
            int y = in.number(8);
            if (x < 0 || y < 0) {
                return false;
            }
            farthest = 256 << (x >> 4);
            return (256 * x + y) % 31 == 0 && (x & 15) == 8 && x >> 4 <= 7 && (y & 32) == 0;
        }

        private boolean checkHolds() {
            in.align();
            if (in.bitsLeft() != 32) {
                return false;
            }
            int check = 0;
            for (int i = 0; i < 4; i++) {
                check = check << 8 | in.number(8);
            }
            return check == checkOf(out, outStart);
        }

        private int made() {
            return out.length() - outStart;
        }

        private boolean copyStored() {
            in.align();
            int n = in.number(16);
            int rest = in.number(16);
            if (n < 0 || rest != 65535 - n || n > PIECE_LIMIT - made() || 8 * n > in.bitsLeft()) {
                return false;
            }
            for (int i = 0; i < n; i++) {
                out.add(in.number(8));
            }
            return true;
        }

        private boolean makeCodes() {
            int h = in.number(5);
            int d = in.number(5);
            int c = in.number(4);
            if (h < 0 || h > 29 || d < 0 || d > 29 || c < 0) {
                return false;
            }
            Arrays.fill(lengths, 0);
            for (int i = 0; i < c + 4 && i < LENGTH_ORDER.length; i++) {
                int length = in.number(3);
                if (length < 0) {
                    return false;
                }
                lengths[LENGTH_ORDER[i]] = length;
            }
            int symbols = h + 257;
            int distances = d + 1;
            return lengthCodes.make(lengths, 0, LENGTH_SYMBOLS, false)
                && readLengths(symbols + distances)
                && lengths[END_OF_PART] > 0
                && madeSymbols.make(lengths, 0, symbols, false)
                && madeDistances.make(lengths, symbols, distances, true);
        }

        private boolean readLengths(int n) {
            int count = 0;
            while (count < n && n <= lengths.length) {
                int symbol = lengthCodes.next(in);
                int more = in.number(repeatExtra(symbol));
                if (symbol < 0 || more < 0 || (symbol == 16 && count == 0)) {
                    return false;
                }
                int times = repeatBase(symbol) + more;
                if (times > n - count) {
                    return false;
                }
                int length = symbol < 16 ? symbol : symbol == 16 ? lengths[count - 1] : 0;
                for (int end = count + times; count < end; count++) {
                    lengths[count] = length;
                }
            }
            return true;
        }

        private boolean followSymbols(Table symbols, Table distances) {
            for (int i = 0; i < BITS_LIMIT; i++) {
                int symbol = symbols.next(in);
                if (symbol == END_OF_PART) {
                    return true;
                }
                if (symbol < 0 || symbol > LAST_SYMBOL || made() >= PIECE_LIMIT) {
                    return false;
                }
                if (symbol < END_OF_PART) {
                    out.add(symbol);
                } else if (!repeatBytes(symbol, distances)) {
                    return false;
                }
            }
            return false;
        }

        private boolean repeatBytes(int symbol, Table distances) {
            int moreLength = in.number(lengthExtra(symbol));
            int distanceSymbol = distances.next(in);
            if (moreLength < 0 || distanceSymbol < 0 || distanceSymbol > LAST_DISTANCE) {
                return false;
            }
            int moreDistance = in.number(distanceExtra(distanceSymbol));
            int length = lengthBase(symbol) + moreLength;
            int distance = distanceBase(distanceSymbol) + moreDistance;
            boolean there = moreDistance >= 0 && distance <= made() && distance <= farthest;
            if (!there || length > PIECE_LIMIT - made()) {
                return false;
            }
            for (int i = 0; i < length; i++) {
                out.add(out.at(out.length() - distance));
            }
            return true;
        }
    }
}
