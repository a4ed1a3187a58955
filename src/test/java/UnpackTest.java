import java.util.Arrays;

/** Promise 11: packed rows made by hand, at the edges of each fault that the document names. */
public final class UnpackTest {
    private static final Due DUE = new Due();
    private static final int FAULT = -12;
    private static final byte[] NOTHING = {};

    public static void main(String[] args) {
        beginnings();
        parts();
        storedParts();
        fixedSymbols();
        distances();
        windows();
        madeParts();
        madeLengths();
        longestCodes();
        limitsOfBytes();
        checks();
        DUE.end();
    }

    private static byte[] bytes(int... values) {
        byte[] bytes = new byte[values.length];
        for (int i = 0; i < values.length; i++) {
            bytes[i] = (byte) values[i];
        }
        return bytes;
    }

    private static byte[] many(int b, int n) {
        byte[] bytes = new byte[n];
        Arrays.fill(bytes, (byte) b);
        return bytes;
    }

    private static Bits fixedPart(boolean last) {
        return new Bits().number(last ? 1 : 0, 1).number(1, 2);
    }

    private static Bits fixedPart(boolean last, byte[] held) {
        Bits bits = fixedPart(last);
        for (byte b : held) {
            bits.code(Bits.fixed(b & 255));
        }
        return bits.code(Bits.fixed(256));
    }

    private static Bits storedPart(Bits before, boolean last, byte[] held) {
        before.number(last ? 1 : 0, 1).number(0, 2).align('0');
        before.number(held.length, 16).number(65535 - held.length, 16);
        for (byte b : held) {
            before.number(b, 8);
        }
        return before;
    }

    /** A packed row alone in the image must hold just these bytes. */
    private static void holds(String what, byte[] packed, byte[] held) {
        PieceRow x = Images.laid(Images.packedPiece(packed));
        DUE.is(what + ": read()", x.read(), held.length);
        DUE.is(what + ": size(1)", x.size(1), held.length);
        DUE.is(what + ": size(2)", x.size(2), 1);
        int step = 1 + held.length / 200;
        for (int i = 0; i < held.length; i += step) {
            DUE.is(what + ": byteAt(" + i + ")", x.byteAt(i), held[i] & 255);
        }
        if (held.length > 0) {
            int end = held.length - 1;
            DUE.is(what + ": byteAt(" + end + ")", x.byteAt(end), held[end] & 255);
        }
        DUE.is(what + ": byteAt behind", x.byteAt(held.length), PieceRow.NONE);
    }

    private static void faults(String what, byte[] packed) {
        PieceRow x = Images.laid(Images.packedPiece(packed));
        DUE.is(what + ": read()", x.read(), FAULT);
        DUE.is(what + ": size(1)", x.size(1), 0);
        DUE.is(what + ": size(2)", x.size(2), 0);
        DUE.is(what + ": byteAt(0)", x.byteAt(0), PieceRow.NONE);
        DUE.is(what + ": start(0)", x.start(0), PieceRow.NONE);
    }

    private static void holds(String what, Bits parts, byte[] held) {
        holds(what, Images.packed(120, 156, parts.bytes(), held), held);
    }

    private static void faults(String what, Bits parts, byte[] held) {
        faults(what, Images.packed(120, 156, parts.bytes(), held));
    }

    private static void beginnings() {
        byte[] held = bytes(1, 2, 3);
        byte[] parts = fixedPart(true, held).bytes();
        for (int x = 0; x < 256; x++) {
            for (int y = 0; y < 256; y++) {
                boolean right = (256 * x + y) % 31 == 0 && x % 16 == 8 && x < 128 && y / 32 % 2 == 0;
                if (right) {
                    holds("beginning " + x + " " + y, Images.packed(x, y, parts, held), held);
                } else if (x % 16 == 8 || (256 * x + y) % 31 == 0) {
                    faults("beginning " + x + " " + y, Images.packed(x, y, parts, held));
                }
            }
        }
    }

    private static void parts() {
        byte[] held = bytes(7, 200, 7);
        faults("sort 3", new Bits().number(1, 1).number(3, 2).number(0, 30), NOTHING);
        Bits two = fixedPart(false, held).add(fixedPart(true, held));
        holds("two parts", two, Images.joined(held, held));
        Bits noLast = fixedPart(false, held);
        faults("no last part", noLast, held);
        Bits more = fixedPart(true, held).align('0').add(fixedPart(true, held));
        faults("a part behind the last one", more, Images.joined(held, held));
        holds("bits behind the last part that are 1", fixedPart(true, held).align('1'), held);
        Bits empties = new Bits();
        for (int i = 0; i < 2000; i++) {
            empties.add(fixedPart(false, NOTHING));
        }
        holds("two thousand empty parts", empties.add(fixedPart(true, held)), held);
        faults("an empty row", fixedPart(true, NOTHING), NOTHING);
        for (int n = 0; n <= 8; n++) {
            faults("just " + n + " bytes", Arrays.copyOf(bytes(120, 156, 3, 0, 0, 0, 0, 1, 0), n + 1));
        }
    }

    private static void storedParts() {
        byte[] held = bytes(5, 0, 255);
        holds("stored", storedPart(new Bits(), true, held), held);
        Bits ones = new Bits().number(1, 1).number(0, 2).align('1').number(3, 16).number(65532, 16);
        holds("stored behind bits that are 1", ones.number(5, 8).number(0, 8).number(255, 8), held);
        Bits none = storedPart(new Bits(), false, NOTHING);
        holds("stored none, then some", storedPart(none, true, held), held);
        Bits unaligned = fixedPart(false, held);
        holds("stored behind fixed", storedPart(unaligned, true, held), Images.joined(held, held));
        for (int bit = 0; bit < 16; bit++) {
            Bits wrong = new Bits().number(1, 1).number(0, 2).align('0').number(3, 16);
            wrong.number(65532 ^ 1 << bit, 16).number(5, 8).number(0, 8).number(255, 8);
            faults("stored, the second number's bit " + bit, wrong, held);
        }
        Bits noneWrong = fixedPart(false, held).number(1, 1).number(0, 2).align('0');
        faults("stored none, the numbers don't fit", noneWrong.number(0, 16).number(65534, 16), held);
        Bits missing = new Bits().number(1, 1).number(0, 2).align('0').number(20, 16);
        faults("stored, bytes missing", missing.number(65515, 16).number(5, 8), bytes(5));
        Bits intoCheck = new Bits().number(1, 1).number(0, 2).align('0').number(5, 16);
        faults("stored, up to the end", intoCheck.number(65530, 16).number(5, 8), bytes(5));
    }

    private static void fixedSymbols() {
        byte[] all = new byte[256];
        for (int i = 0; i < 256; i++) {
            all[i] = (byte) i;
        }
        holds("all bytes", fixedPart(true, all), all);
        for (int s = 257; s <= 285; s++) {
            int extra = Model.LENGTH_EXTRA[s - 257];
            for (int more : new int[] {0, (1 << extra) - 1}) {
                int length = Model.LENGTH_BASE[s - 257] + more;
                Bits bits = fixedPart(true).code(Bits.fixed(9)).code(Bits.fixed(s)).number(more, extra);
                bits.code(Bits.binary(0, 5)).code(Bits.fixed(256));
                holds("length symbol " + s + " and " + more, bits, many(9, 1 + length));
            }
        }
        for (int s = 286; s <= 287; s++) {
            Bits bits = fixedPart(true).code(Bits.fixed(9)).code(Bits.fixed(s));
            faults("symbol " + s, bits.code("00000").code(Bits.fixed(256)), bytes(9));
            faults("symbol " + s + " at the end",
                fixedPart(true).code(Bits.fixed(9)).code(Bits.fixed(s)), bytes(9));
            faults("symbol " + s + " left out", fixedPart(true).code(Bits.fixed(9))
                .code(Bits.fixed(s)).code(Bits.fixed(256)), bytes(9));
        }
    }

    private static void distances() {
        byte[] held = new byte[4000];
        for (int i = 0; i < held.length; i++) {
            held[i] = (byte) (i * i / 7 + i / 3);
        }
        for (int d = 0; d < 24; d++) {
            for (int more : new int[] {0, (1 << Model.DISTANCE_EXTRA[d]) - 1}) {
                int distance = Model.DISTANCE_BASE[d] + more;
                if (distance > 3900) {
                    continue;
                }
                byte[] before = Arrays.copyOf(held, distance);
                holds("distance " + distance, match(before, d, more), continued(before, distance));
                byte[] fewer = Arrays.copyOf(held, distance - 1);
                byte[] guess = Images.joined(fewer, new byte[3]);
                faults("distance " + distance + " beyond the first byte", match(fewer, d, more), guess);
            }
        }
        for (int d = 24; d < 32; d++) {
            faults("distance symbol " + d, match(held, d, 0), held);
        }
    }

    /** Bytes stored, then three of them again from a distance. */
    private static Bits match(byte[] before, int distance, int more) {
        Bits bits = storedPart(new Bits(), false, before).add(fixedPart(true));
        bits.code(Bits.fixed(257)).code(Bits.binary(distance, 5));
        int extra = distance < 30 ? Model.DISTANCE_EXTRA[distance] : 0;
        return bits.number(more, extra).code(Bits.fixed(256));
    }

    private static byte[] continued(byte[] before, int distance) {
        byte[] all = Arrays.copyOf(before, before.length + 3);
        for (int i = before.length; i < all.length; i++) {
            all[i] = all[i - distance];
        }
        return all;
    }

    private static void windows() {
        byte[] before = new byte[3000];
        for (int i = 0; i < before.length; i++) {
            before[i] = (byte) (i ^ i >> 5);
        }
        for (int upper = 0; upper <= 3; upper++) {
            int x = 16 * upper + 8;
            int y = (31 - 256 * x % 31) % 31;
            int farthest = 256 << upper;
            // 256 << k is the last distance of its symbol, and the next symbol begins behind it
            int d = 15 + 2 * upper;
            int most = (1 << Model.DISTANCE_EXTRA[d]) - 1;
            byte[] held = continued(before, farthest);
            holds("the farthest of " + farthest,
                Images.packed(x, y, match(before, d, most).bytes(), held), held);
            held = continued(before, farthest + 1);
            faults("one more than " + farthest,
                Images.packed(x, y, match(before, d + 1, 0).bytes(), held));
            holds("one more than " + farthest + ", but of the greatest window",
                match(before, d + 1, 0), held);
        }
    }

    /** The beginning of a made part whose 19 have these lengths. */
    private static Bits made(int h, int d, int[] lengths) {
        int[] order = {16, 17, 18, 0, 8, 7, 9, 6, 10, 5, 11, 4, 12, 3, 13, 2, 14, 1, 15};
        Bits bits = new Bits().number(1, 1).number(2, 2).number(h, 5).number(d, 5).number(15, 4);
        for (int s : order) {
            bits.number(lengths[s], 3);
        }
        return bits;
    }

    // lengths for the 19 that give eight of them codes of three bits
    private static final int[] EIGHT = new int[19];
    private static final String[] EIGHT_CODES;

    static {
        for (int s : new int[] {0, 1, 2, 3, 8, 16, 17, 18}) {
            EIGHT[s] = 3;
        }
        EIGHT_CODES = Model.codes(EIGHT);
    }

    private static Bits lengthRow(Bits bits, int... told) {
        for (int i = 0; i < told.length; i++) {
            int s = told[i];
            bits.code(EIGHT_CODES[s]);
            if (s >= 16) {
                i++;
                bits.number(told[i], s == 16 ? 2 : s == 17 ? 3 : 7);
            }
        }
        return bits;
    }

    private static void madeParts() {
        // byte 65 has the code 0, 256 the code 1
        int[] aAndEnd = {18, 54, 1, 18, 127, 18, 41, 1};
        byte[] held = bytes(65, 65);
        Bits plain = lengthRow(made(0, 0, EIGHT), aAndEnd);
        holds("made, without distances", lengthRow(plain, 0).code("001"), held);
        // 65 0, 256 10, 257 11; distance 0 alone, with the code 0
        int[] three = {18, 54, 1, 18, 127, 18, 41, 2, 2};
        Bits one = lengthRow(made(1, 0, EIGHT), three);
        holds("one distance alone", lengthRow(one, 1).code("0").code("11").code("0").code("10"),
            many(65, 4));
        Bits noBeginning = lengthRow(made(1, 0, EIGHT), three);
        faults("one distance alone, but the other bit",
            lengthRow(noBeginning, 1).code("0").code("11").code("1").code("10"), many(65, 4));
        Bits noDistance = lengthRow(made(1, 0, EIGHT), three);
        faults("a length, but no distances",
            lengthRow(noDistance, 0).code("0").code("11").code("0").code("10"), many(65, 4));
        Bits second = lengthRow(made(1, 1, EIGHT), three);
        holds("the second distance alone", lengthRow(second, 0, 1).code("00").code("11").code("0")
            .code("10"), many(65, 5));
        Bits alone = lengthRow(made(1, 0, EIGHT), three);
        faults("one distance alone, of length 2",
            lengthRow(alone, 2).code("0").code("11").code("00").code("10"), many(65, 4));
        faults("one distance alone, of length 2, not used", lengthRow(
            lengthRow(made(1, 0, EIGHT), three), 2).code("0").code("10"), many(65, 1));
        faults("two distances of length 2", lengthRow(
            lengthRow(made(1, 1, EIGHT), three), 2, 2).code("0").code("10"), many(65, 1));
        holds("two distances of length 1", lengthRow(
            lengthRow(made(1, 1, EIGHT), three), 1, 1).code("00").code("111").code("10"), many(65, 5));
        faults("three distances of length 1", lengthRow(
            lengthRow(made(1, 2, EIGHT), three), 1, 1, 1).code("0").code("10"), many(65, 1));
        endAlone();
        for (int h = 28; h < 32; h++) {
            for (int d = 28; d < 32; d++) {
                Bits most = lengthRow(made(h, d, EIGHT), 18, 54, 1, 18, 127, 18, 41, 1, 18, h + d - 10);
                String what = "h " + h + ", d " + d;
                if (h <= 29 && d <= 29) {
                    holds(what, most.code("001"), held);
                } else {
                    faults(what, most.code("001"), held);
                }
            }
        }
    }

    private static void endAlone() {
        byte[] held = bytes(1, 2, 3, 4);
        int[] endAlone = {18, 127, 18, 107, 1, 0};
        Bits bits = storedPart(new Bits(), false, held);
        holds("256 alone, of length 1", bits.add(lengthRow(made(0, 0, EIGHT), endAlone)).code("0"), held);
        bits = storedPart(new Bits(), false, held);
        faults("256 alone, but the other bit",
            bits.add(lengthRow(made(0, 0, EIGHT), endAlone)).code("1"), held);
        bits = storedPart(new Bits(), false, held);
        faults("256 alone, of length 2",
            bits.add(lengthRow(made(0, 0, EIGHT), 18, 127, 18, 107, 2, 0)).code("00"), held);
        bits = storedPart(new Bits(), false, held);
        faults("no symbols", bits.add(lengthRow(made(0, 0, EIGHT), 18, 127, 18, 109)).code("0"), held);
        bits = storedPart(new Bits(), false, held);
        faults("256 has no code", bits.add(lengthRow(made(0, 0, EIGHT),
            18, 54, 1, 1, 18, 127, 18, 42)).code("0"), held);
    }

    private static void madeLengths() {
        byte[] held = bytes(65, 65);
        int[] tail = {18, 54, 1, 18, 127, 18, 41, 1};
        faults("a 16 without a length before", lengthRow(made(0, 0, EIGHT),
            16, 0, 18, 51, 1, 18, 127, 18, 41, 1, 0).code("001"), held);
        holds("a 16 behind a 0", lengthRow(made(0, 0, EIGHT),
            0, 16, 3, 18, 47, 1, 18, 127, 18, 41, 1, 0).code("001"), held);
        holds("a 17 of three and of ten", lengthRow(made(0, 0, EIGHT),
            17, 0, 17, 7, 18, 41, 1, 18, 127, 18, 41, 1, 0).code("001"), held);
        holds("a 16 over the border", lengthRow(made(0, 3, EIGHT),
            // 65 and 256 and four distances: 2 2 2 2 for distances go on from 256's 2
            18, 53, 2, 2, 2, 18, 127, 18, 40, 2, 16, 1).code("01").code("11"), bytes(65));
        holds("an 18 over the border", lengthRow(made(29, 29, EIGHT),
            18, 54, 1, 18, 127, 18, 41, 1, 18, 48).code("001"), held);
        faults("one length too many by 18", lengthRow(made(29, 29, EIGHT),
            18, 54, 1, 18, 127, 18, 41, 1, 18, 49).code("001"), held);
        faults("too many by 16", lengthRow(lengthRow(made(0, 2, EIGHT), tail), 16, 1).code("001"), held);
        faults("too many by 17", lengthRow(lengthRow(made(0, 1, EIGHT), tail), 17, 0).code("001"), held);
        faults("more than 1 among symbols", lengthRow(made(0, 0, EIGHT),
            18, 54, 1, 2, 18, 127, 18, 40, 1, 0).code("001"), held);
        faults("less than 1 among symbols", lengthRow(made(0, 0, EIGHT),
            18, 54, 1, 18, 127, 18, 41, 2, 0).code("0010"), held);
        int[] less = EIGHT.clone();
        less[8] = 0;
        faults("less than 1 among the 19", lengthRow(lengthRow(made(0, 0, less), tail), 0).code("001"), held);
        int[] more = EIGHT.clone();
        more[15] = 7;
        faults("more than 1 among the 19", lengthRow(lengthRow(made(0, 0, more), tail), 0).code("001"), held);
        faults("none among the 19", made(0, 0, new int[19]).number(0, 300), held);
        for (int s = 0; s < 19; s++) {
            int[] alone = new int[19];
            alone[s] = 1;
            faults("one alone among the 19: " + s, made(0, 0, alone).number(0, 900), held);
        }
        for (int bits = 1; bits < 120; bits++) {
            Bits whole = lengthRow(lengthRow(made(0, 0, EIGHT), tail), 0).code("001");
            byte[] some = Arrays.copyOf(whole.bytes(), Math.min(whole.length() / 8, bits / 8));
            faults("bits missing", Images.joined(bytes(120, 156), some));
        }
    }

    /** Codes of all lengths, 1 to 15, among symbols and distances. */
    private static void longestCodes() {
        int[] symbols = new int[286];
        int[] distances = new int[16];
        for (int i = 0; i < 16; i++) {
            distances[i] = Math.min(15, 15 - i + (i == 0 ? 0 : 1));
        }
        for (int i = 0; i < 14; i++) {
            symbols[3 * i] = i + 1;
        }
        symbols[256] = 15;
        symbols[285] = 15;
        int[] lengths = new int[19];
        for (int s = 0; s < 16; s++) {
            lengths[s] = 4;
        }
        String[] told = Model.codes(lengths);
        Bits bits = made(29, 15, lengths);
        for (int length : symbols) {
            bits.code(told[length]);
        }
        for (int length : distances) {
            bits.code(told[length]);
        }
        String[] symbolCodes = Model.codes(symbols);
        String[] distanceCodes = Model.codes(distances);
        byte[] held = new byte[14];
        for (int i = 0; i < 14; i++) {
            held[i] = (byte) (3 * i);
            bits.code(symbolCodes[3 * i]);
        }
        for (int d = 0; d < 16; d++) {
            bits.code(symbolCodes[285]).code(distanceCodes[d]).number(0, Model.DISTANCE_EXTRA[d]);
            held = Arrays.copyOf(held, held.length + 258);
            for (int i = held.length - 258; i < held.length; i++) {
                held[i] = held[i - Model.DISTANCE_BASE[d]];
            }
        }
        holds("codes of all lengths", bits.code(symbolCodes[256]), held);
    }

    private static void limitsOfBytes() {
        holds("8192 bytes", runOf(8192), many(3, 8192));
        faults("8193 bytes by a length", runOf(8193), many(3, 8193));
        Bits byOne = new Bits().add(runPart(false, 8192)).add(fixedPart(true, bytes(3)));
        faults("8193 bytes by a byte", byOne, many(3, 8193));
        Bits cutOff = new Bits().add(runPart(false, 8192)).add(fixedPart(true)).code(Bits.fixed(3));
        faults("8193 bytes, ended by it", cutOff, many(3, 8192));
        Bits stored = storedPart(runPart(false, 8190), true, many(3, 2));
        holds("8192 bytes by a stored part", stored, many(3, 8192));
        stored = storedPart(runPart(false, 8190), true, many(3, 3));
        faults("8193 bytes by a stored part", stored, many(3, 8193));
        Bits none = storedPart(runPart(false, 8192), true, NOTHING);
        holds("8192 bytes and a stored part of none", none, many(3, 8192));
        faults("far more bytes", runOf(70000), many(3, 70000));
    }

    private static Bits runOf(int n) {
        return runPart(true, n);
    }

    /** So many bytes 3: one by one, and the rest by lengths of 258. */
    private static Bits runPart(boolean last, int n) {
        Bits bits = fixedPart(last).code(Bits.fixed(3));
        int left = n - 1;
        for (; left % 258 != 0; left--) {
            bits.code(Bits.fixed(3));
        }
        for (; left > 0; left -= 258) {
            bits.code(Bits.fixed(285)).code("00000");
        }
        return bits.code(Bits.fixed(256));
    }

    private static void checks() {
        byte[] held = new byte[3000];
        Arrays.fill(held, (byte) 255);
        byte[] parts = storedPart(new Bits(), true, held).bytes();
        byte[] right = Images.packed(120, 156, parts, held);
        holds("check of many 255", right, held);
        for (int bit = 0; bit < 32; bit++) {
            byte[] wrong = right.clone();
            wrong[wrong.length - 1 - bit / 8] ^= (byte) (1 << (bit % 8));
            faults("check, bit " + bit, wrong);
        }
        for (int n = 1; n <= 4; n++) {
            faults("check, " + n + " bytes missing", Arrays.copyOf(right, right.length - n));
        }
        faults("a byte behind the check", Arrays.copyOf(right, right.length + 1));
    }
}
