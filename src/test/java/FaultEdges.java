import java.util.Arrays;

/** The faults of a packed row: each with what only just holds beside it. */
final class FaultEdges {
    private static final byte[] NOTHING = PackedRows.NOTHING;
    private static final int[] EIGHT = PackedRows.EIGHT;
    // 65 has the code 0, 256 the code 1
    private static final int[] A_AND_END = {18, 54, 1, 18, 127, 18, 41, 1};
    // 65 has the code 0, 256 10, 257 11
    private static final int[] A_END_AND_THREE = {18, 54, 1, 18, 127, 18, 41, 2, 2};

    private final Due due;
    private final PackedRows rows;

    private FaultEdges(Due due) {
        this.due = due;
        rows = new PackedRows(due);
    }

    static void all(Due due) {
        FaultEdges edges = new FaultEdges(due);
        edges.notDivided();
        edges.lowerBits();
        edges.upperBits();
        edges.bit32();
        edges.bitsMissing();
        edges.bitsOfTheNextPiece();
        edges.bytesLeft();
        edges.sort();
        edges.storedNumbers();
        edges.hAndD();
        edges.sixteenAtFirst();
        edges.tooManyLengths();
        edges.sumAbove();
        edges.sumBelow();
        edges.oneAlone();
        edges.noneAtAll();
        edges.endWithoutCode();
        edges.noBeginning();
        edges.symbolsAbove();
        edges.distanceBeyondTheFirst();
        edges.distanceAboveTheWindow();
        edges.tooManyBytes();
        edges.check();
    }

    private static byte[] bytes(int... values) {
        return Images.bytes(values);
    }

    private void beginning(int x, int y, boolean holds) {
        byte[] held = bytes(1, 2, 3);
        byte[] packed = Images.packed(x, y, PackedRows.fixedPart(true, held).bytes(), held);
        if (holds) {
            rows.holds("beginning " + x + " " + y, packed, held);
        } else {
            rows.faults("beginning " + x + " " + y, packed);
        }
    }

    private void notDivided() {
        due.by("It is a FAULT of a packed row: the first two bytes are, as 256 x + y, not divided by 31,");
        for (int y = 0; y < 256; y++) {
            beginning(120, y, y == 1 || y == 94 || y == 156 || y == 218);
        }
        for (int x = 8; x < 128; x += 16) {
            for (int y = 0; y < 32; y++) {
                beginning(x, y, (256 * x + y) % 31 == 0);
            }
        }
    }

    private void lowerBits() {
        due.by("or the first one's lower four bits are not 8,");
        for (int x = 0; x < 128; x++) {
            beginning(x, (31 - 256 * x % 31) % 31, x % 16 == 8);
        }
    }

    private void upperBits() {
        due.by("its others above 7,");
        for (int x = 8; x < 256; x += 16) {
            beginning(x, (31 - 256 * x % 31) % 31, x <= 0x78);
        }
    }

    private void bit32() {
        due.by("or the second one has the bit 32;");
        for (int x = 8; x < 128; x += 16) {
            for (int y = (31 - 256 * x % 31) % 31; y < 256; y += 31) {
                beginning(x, y, (y & 32) == 0);
            }
        }
    }

    private void bitsMissing() {
        due.by("bits are missing,");
        for (int k = 0; k < 8; k++) {
            // each of these takes nine bits, so that what follows stands at another bit each time
            Bits before = PackedRows.fixedPart(false, Images.many(210, k));
            byte[] held = Images.many(210, k);
            cutAnywhere("stored", PackedRows.storedPart(new Bits().add(before), true, bytes(0, 0, 9)),
                Images.joined(held, bytes(0, 0, 9)));
            Bits fixed = new Bits().add(before).add(PackedRows.fixedPart(true));
            for (int i = 0; i < 20; i++) {
                fixed.code(Bits.fixed(0));
            }
            fixed.code(Bits.fixed(281)).number(0, 5).code("01000").number(0, 3).code(Bits.fixed(256));
            cutAnywhere("fixed", fixed, Images.joined(held, Images.many(0, 20 + 131)));
            Bits made = new Bits().add(before).add(PackedRows.told(PackedRows.made(1, 0, EIGHT), A_END_AND_THREE));
            PackedRows.told(made, 1).code("0").code("11").code("0").code("10");
            cutAnywhere("made", made, Images.joined(held, Images.many(65, 4)));
        }
        for (int n : new int[] {2, 4, 5, 6, 20, 8192, 65535}) {
            // with five it goes just up to the end of all, but the check is missing then
            rows.faults("one byte of " + n + " stored",
                PackedRows.storedPart(new Bits(), true, '0', n, 65535 - n, bytes(5)), bytes(5));
        }
        for (int n = 0; n <= 7; n++) {
            byte[] least = {120, (byte) 156, 3, 0, 0, 0, 0, 1};
            rows.faults("just " + (n + 1) + " bytes", Arrays.copyOf(least, n + 1));
        }
    }

    /** The whole row holds; without its last bytes, or the last ones of its parts, it does not. */
    private void cutAnywhere(String what, Bits parts, byte[] held) {
        rows.holds(what, parts, held);
        byte[] packed = Images.packed(120, 156, parts.bytes(), held);
        for (int n = 1; n < packed.length; n++) {
            rows.faults(what + ", " + n + " bytes of " + packed.length, Arrays.copyOf(packed, n));
        }
        for (int n = 0; n < parts.bytes().length; n++) {
            byte[] some = Arrays.copyOf(parts.bytes(), n);
            rows.faults(what + ", " + n + " bytes of parts, and the check", Images.packed(120, 156, some, held));
        }
    }

    /** The check's four bytes may just as well be a piece of two bytes: its head is 2 and 128. */
    private void bitsOfTheNextPiece() {
        due.by("bits are missing,");
        byte[] held = new byte[8192];
        // a byte that is k before the end counts k times, so that b is 0x0280 behind its modulo
        held[8192 - 226] = (byte) 255;
        held[8192 - 100] = 2;
        held[8192 - 1] = (byte) (65521 + 0x0280 - 8192 - 226 * 255 - 100 * 2);
        byte[] check = Images.check(held);
        due.is("the check's first byte", check[0], 2);
        due.is("its second byte", check[1] & 255, 128);
        byte[] packed = Model.pack(held);
        byte[] head = bytes(packed.length - 4, (packed.length - 4) >> 8);
        Run x = Images.laid(Images.joined(head, packed));
        due.is("read()", x.read(), -12);
        rows.holds("with the check", packed, held);
    }

    private void bytesLeft() {
        due.by("or bytes are left behind the check;");
        byte[] held = bytes(7, 200, 7);
        byte[] packed = Images.packed(120, 156, PackedRows.fixedPart(true, held).bytes(), held);
        rows.holds("none left", packed, held);
        for (int n : new int[] {1, 2, 3, 4, 5, 100}) {
            rows.faults(n + " bytes 0 left", Arrays.copyOf(packed, packed.length + n));
            rows.faults(n + " bytes 255 left", Images.joined(packed, Images.many(255, n)));
        }
        rows.faults("a check again", Images.joined(packed, Images.check(held)));
        rows.faults("a row again", Images.joined(packed, packed));
        byte[] between = PackedRows.fixedPart(true, held).align('0').number(0, 8).bytes();
        rows.faults("a byte before the check", Images.packed(120, 156, between, held));
    }

    private void sort() {
        due.by("the sort is 3;");
        byte[] held = bytes(7, 200, 7);
        Bits three = new Bits().number(1, 1).number(3, 2);
        rows.faults("alone", three, NOTHING);
        rows.faults("with a byte behind", PackedRows.fixedPart(true, held).from(3), held);
        rows.faults("in the place of fixed", new Bits().add(three).add(PackedRows.fixedPart(true, held).from(3)), held);
        Bits made = PackedRows.told(PackedRows.told(PackedRows.made(0, 0, EIGHT), A_AND_END), 0).code("001");
        rows.holds("made", made, bytes(65, 65));
        rows.faults("in the place of made", new Bits().add(three).add(made.from(3)), bytes(65, 65));
        Bits stored = new Bits().add(three).align('0').number(3, 16).number(65532, 16);
        rows.faults("in the place of stored", stored.number(7, 8).number(200, 8).number(7, 8), held);
        rows.faults("in the last part", PackedRows.fixedPart(false, held).add(three), held);
        Bits first = new Bits().number(0, 1).number(3, 2);
        rows.faults("before the last part", first.add(PackedRows.fixedPart(true, held)), held);
    }

    private void storedNumbers() {
        due.by("the two numbers of a stored part don't fit;");
        byte[] held = bytes(5, 0, 255);
        rows.holds("they fit", PackedRows.storedPart(new Bits(), true, '0', 3, 65532, held), held);
        for (int bit = 0; bit < 16; bit++) {
            rows.faults("the second number's bit " + bit,
                PackedRows.storedPart(new Bits(), true, '0', 3, 65532 ^ 1 << bit, held), held);
            rows.faults("the first number's bit " + bit,
                PackedRows.storedPart(new Bits(), true, '0', 3 ^ 1 << bit, 65532, held), held);
        }
        rows.faults("both are 3", PackedRows.storedPart(new Bits(), true, '0', 3, 3, held), held);
        rows.faults("the second one is -3", PackedRows.storedPart(new Bits(), true, '0', 3, 65533, held), held);
        Bits none = PackedRows.fixedPart(false, held);
        rows.faults("none, and 0", PackedRows.storedPart(none, true, '0', 0, 0, NOTHING), held);
        none = PackedRows.fixedPart(false, held);
        rows.faults("none, and 65534", PackedRows.storedPart(none, true, '0', 0, 65534, NOTHING), held);
        none = PackedRows.fixedPart(false, held);
        rows.holds("none, and 65535", PackedRows.storedPart(none, true, '0', 0, 65535, NOTHING), held);
    }

    private void hAndD() {
        due.by("h above 29, or d above 29;");
        byte[] held = bytes(65, 65);
        for (int h = 28; h < 32; h++) {
            for (int d = 28; d < 32; d++) {
                Bits bits = PackedRows.told(PackedRows.made(h, d, EIGHT), A_AND_END);
                PackedRows.told(bits, 18, h + d + 1 - 11).code("001");
                rows.either("h " + h + ", d " + d, h <= 29 && d <= 29, bits, held);
            }
        }
        for (int n = 0; n < 32; n++) {
            Bits bits = PackedRows.told(PackedRows.told(PackedRows.made(n, 10, EIGHT), A_AND_END), 18, n);
            rows.either("h " + n + ", d 10", n <= 29, bits.code("001"), held);
            bits = PackedRows.told(PackedRows.told(PackedRows.made(10, n, EIGHT), A_AND_END), 18, n);
            rows.either("h 10, d " + n, n <= 29, bits.code("001"), held);
        }
        for (int[] above : new int[][] {{30, 0}, {0, 30}, {31, 31}}) {
            // the codes of the part before are not to be used again
            Bits bits = new Bits().code("0").add(PackedRows.told(PackedRows.made(0, 0, EIGHT), A_AND_END).from(1));
            PackedRows.told(bits, 0).code("001").number(1, 1).number(2, 2);
            bits.number(above[0], 5).number(above[1], 5).number(0, 4).code("001");
            rows.faults("h " + above[0] + ", d " + above[1] + " behind a made part", bits, Images.many(65, 4));
        }
    }

    private void sixteenAtFirst() {
        due.by("a 16 without a length before,");
        byte[] held = bytes(65, 65);
        for (int more = 0; more < 4; more++) {
            int left = 65 - 3 - more - 11;
            rows.faults("a 16 and " + more, PackedRows.told(PackedRows.made(0, 0, EIGHT),
                16, more, 18, left, 1, 18, 127, 18, 41, 1, 0).code("001"), held);
            rows.holds("a 0, a 16 and " + more, PackedRows.told(PackedRows.made(0, 0, EIGHT),
                0, 16, more, 18, left - 1, 1, 18, 127, 18, 41, 1, 0).code("001"), held);
        }
        // a part before has left lengths behind, but they are not those of this one
        Bits first = new Bits().code("0").add(PackedRows.told(PackedRows.made(0, 0, EIGHT), A_AND_END).from(1));
        PackedRows.told(first, 0).code("001");
        first.add(PackedRows.told(PackedRows.made(0, 0, EIGHT), 16, 0, 18, 51, 1, 18, 127, 18, 41, 1, 0)).code("001");
        rows.faults("a 16 at first in the second part", first, Images.many(65, 4));
    }

    private void tooManyLengths() {
        due.by("or more lengths than there are to be;");
        byte[] held = bytes(65, 65);
        for (int n = 3; n <= 12; n++) {
            // so many are left for distances behind 256
            for (int times = 3; times <= 14; times++) {
                Bits bits = PackedRows.told(PackedRows.made(0, n - 1, EIGHT), A_AND_END);
                int s = times <= 10 ? 17 : 18;
                PackedRows.told(bits, s, times - (s == 17 ? 3 : 11));
                if (times < n) {
                    for (int i = times; i < n; i++) {
                        PackedRows.told(bits, 0);
                    }
                }
                rows.either(times + " of " + n + " by " + s, times <= n, bits.code("001"), held);
            }
        }
        for (int more = 0; more < 4; more++) {
            // four distances of length 2: one told, the others by 16
            Bits bits = PackedRows.told(PackedRows.made(0, 3, EIGHT), A_AND_END);
            rows.either("a 16 and " + more + " with three left", more == 0,
                PackedRows.told(bits, 2, 16, more).code("001"), held);
            bits = PackedRows.told(PackedRows.made(0, 0, EIGHT), A_AND_END);
            rows.faults("a 16 and " + more + " with one left", PackedRows.told(bits, 16, more).code("001"), held);
        }
        rows.holds("an 18 of 59 at the end", PackedRows.told(PackedRows.told(
            PackedRows.made(29, 29, EIGHT), A_AND_END), 18, 48).code("001"), held);
        rows.faults("an 18 of 60 at the end", PackedRows.told(PackedRows.told(
            PackedRows.made(29, 29, EIGHT), A_AND_END), 18, 49).code("001"), held);
        rows.faults("an 18 of 138 at the end", PackedRows.told(PackedRows.told(
            PackedRows.made(29, 29, EIGHT), A_AND_END), 18, 127).code("001"), held);
    }

    /** A made part with these lengths, told one by one, for symbols from 65 on and 256, and for distances. */
    private static Bits lengths(int[] letters, int end, int... distances) {
        int[] symbols = new int[257];
        System.arraycopy(letters, 0, symbols, 65, letters.length);
        symbols[256] = end;
        return PackedRows.toldOneByOne(symbols, distances);
    }

    private static int[] of(int... lengths) {
        return lengths;
    }

    private void sumAbove() {
        due.by("lengths that make no codes (the sum of 2 ^ -length over all codes is above 1,");
        byte[] held = bytes(65);
        rows.holds("1 2 2", lengths(of(1, 2), 2, 0).code("0").code("11"), held);
        rows.faults("1 1 2", lengths(of(1, 1), 2, 0).code("0").code("11"), held);
        rows.faults("1 2 1", lengths(of(1, 2), 1, 0).code("0").code("1"), held);
        rows.faults("1 1 1", lengths(of(1, 1), 1, 0).code("0").code("1"), held);
        rows.faults("1 2 2 15", lengths(of(1, 2, 15), 2, 0).code("0").code("11"), held);
        rows.faults("1 2 2 2", lengths(of(1, 2, 2), 2, 0).code("0").code("11"), held);
        rows.holds("distances 1 1", lengths(of(1), 1, 1, 1).code("01"), held);
        rows.faults("distances 1 1 1", lengths(of(1), 1, 1, 1, 1).code("01"), held);
        rows.faults("distances 1 1 15", lengths(of(1), 1, 1, 1, 15).code("01"), held);
        rows.holds("distances 2 2 2 2", lengths(of(1), 1, 2, 2, 2, 2).code("01"), held);
        rows.faults("distances 2 2 2 1", lengths(of(1), 1, 2, 2, 2, 1).code("01"), held);
        rows.faults("distances 2 2 2 2 15", lengths(of(1), 1, 2, 2, 2, 2, 15).code("01"), held);
        for (int s = 0; s < 19; s++) {
            int[] more = EIGHT.clone();
            boolean already = more[s] > 0;
            more[s] = already ? 2 : 7;
            Bits bits = PackedRows.told(PackedRows.told(PackedRows.made(0, 0, more), A_AND_END), 0);
            rows.faults("the 19, one more for " + s, bits.code("001"), held);
        }
    }

    private void sumBelow() {
        due.by("or below 1, but for the one code of length 1 alone, and, for distances, none at all;");
        byte[] held = bytes(65);
        rows.holds("1 1", lengths(of(1), 1, 0).code("01"), held);
        rows.faults("1 2", lengths(of(1), 2, 0).code("0").code("10"), held);
        rows.faults("2 1", lengths(of(2), 1, 0).code("10").code("0"), held);
        rows.faults("2 2", lengths(of(2), 2, 0).code("00").code("01"), held);
        rows.faults("1 15", lengths(of(1), 15, 0).code("0").code("100000000000000"), held);
        int[] chain = of(1, 2, 3, 4, 5, 6, 7, 8, 9, 10, 11, 12, 13, 14, 15);
        rows.holds("1 .. 15 15", lengths(chain, 15, 0).code("0").code("111111111111111"), held);
        rows.faults("1 .. 14 15", lengths(Arrays.copyOf(chain, 14), 15, 0).code("0").code("111111111111110"), held);
        rows.faults("distances 1 2", lengths(of(1), 1, 1, 2).code("01"), held);
        rows.faults("distances 2 2", lengths(of(1), 1, 2, 2).code("01"), held);
        rows.faults("distances 2 2 2", lengths(of(1), 1, 2, 2, 2).code("01"), held);
        rows.faults("distances 1 .. 14", lengths(of(1), 1, Arrays.copyOf(chain, 14)).code("01"), held);
        rows.faults("distances 1 .. 15", lengths(of(1), 1, chain).code("01"), held);
        for (int s = 0; s < 19; s++) {
            if (EIGHT[s] > 0) {
                int[] less = EIGHT.clone();
                less[s] = 4;
                Bits bits = PackedRows.told(PackedRows.told(PackedRows.made(0, 0, less), A_AND_END), 0);
                rows.faults("the 19, less for " + s, bits.code("001"), held);
                less[s] = 0;
                bits = PackedRows.told(PackedRows.told(PackedRows.made(0, 0, less), A_AND_END), 0);
                rows.faults("the 19, none for " + s, bits.code("001"), held);
            }
        }
    }

    private void oneAlone() {
        due.by("or below 1, but for the one code of length 1 alone, and, for distances, none at all;");
        byte[] held = bytes(1, 2, 3, 4);
        for (int length = 1; length <= 15; length++) {
            Bits bits = PackedRows.storedPart(new Bits(), false, held).add(lengths(of(), length, 0));
            rows.either("256 alone, of length " + length, length == 1, bits.number(0, length), held);
            for (int d = 0; d < 30; d += 29) {
                int[] distances = new int[30];
                distances[d] = length;
                rows.either("distance " + d + " alone, of length " + length, length == 1,
                    lengths(of(1), 1, distances).code("01"), bytes(65));
            }
        }
        Bits one = PackedRows.told(PackedRows.made(1, 0, EIGHT), A_END_AND_THREE);
        rows.holds("distance 0 alone, used",
            PackedRows.told(one, 1).code("0").code("11").code("0").code("10"), Images.many(65, 4));
        Bits two = PackedRows.told(PackedRows.made(1, 1, EIGHT), A_END_AND_THREE);
        rows.holds("distance 1 alone, used",
            PackedRows.told(two, 0, 1).code("00").code("11").code("0").code("10"), Images.many(65, 5));
        for (int s = 0; s < 19; s++) {
            // whatever it is, all lengths are the same then, and 256 symbols or more make no codes
            int[] alone = new int[19];
            alone[s] = 1;
            rows.faults("one alone of the 19: " + s, PackedRows.made(0, 0, alone).number(0, 900), held);
        }
    }

    private void noneAtAll() {
        due.by("or below 1, but for the one code of length 1 alone, and, for distances, none at all;");
        byte[] held = bytes(65);
        for (int n = 1; n <= 30; n++) {
            rows.holds("no distance of " + n, lengths(of(1), 1, new int[n]).code("01"), held);
        }
        Bits bits = PackedRows.storedPart(new Bits(), false, held).add(lengths(of(), 0, 0)).code("0");
        rows.faults("no symbols", bits, held);
        bits = PackedRows.storedPart(new Bits(), false, held).add(lengths(of(), 0, 1)).code("0");
        rows.faults("no symbols, but a distance", bits, held);
        rows.faults("none of the 19", PackedRows.made(0, 0, new int[19]).number(0, 300), held);
    }

    private void endWithoutCode() {
        due.by("or 256 has no code);");
        byte[] held = bytes(1, 2);
        Bits bits = PackedRows.storedPart(new Bits(), false, held).add(lengths(of(1, 1), 0, 0));
        rows.faults("65 and 66 alone", bits.code("0"), held);
        bits = PackedRows.storedPart(new Bits(), false, held).add(lengths(of(1), 0, 0));
        rows.faults("65 alone", bits.code("0"), held);
        int[] symbols = new int[258];
        symbols[65] = 1;
        symbols[257] = 1;
        bits = PackedRows.storedPart(new Bits(), false, held).add(PackedRows.toldOneByOne(symbols, of(1)));
        rows.faults("65 and 257 alone", bits.code("0"), held);
        // nothing but the check tells that such a part has no end
        byte[] many = Images.many(65, 8192);
        Bits full = lengths(of(1, 1), 0, 0);
        rows.faults("65 so often that all is full", full.number(0, 8192), many);
    }

    private void noBeginning() {
        due.by("bits that are no beginning of a code;");
        Bits bits = PackedRows.told(PackedRows.told(PackedRows.made(1, 0, EIGHT), A_END_AND_THREE), 1);
        rows.faults("one distance alone, but the other bit",
            bits.code("0").code("11").code("1").code("10"), Images.many(65, 4));
        bits = PackedRows.told(PackedRows.told(PackedRows.made(1, 0, EIGHT), A_END_AND_THREE), 0);
        rows.faults("no distance, 0", bits.code("0").code("11").code("0").code("10"), Images.many(65, 4));
        bits = PackedRows.told(PackedRows.told(PackedRows.made(1, 0, EIGHT), A_END_AND_THREE), 0);
        rows.faults("no distance, 1", bits.code("0").code("11").code("1").code("10"), Images.many(65, 4));
        bits = PackedRows.told(PackedRows.told(PackedRows.made(1, 0, EIGHT), A_END_AND_THREE), 0);
        rows.faults("no distance, no bit", bits.code("0").code("11").code("10"), Images.many(65, 4));
        byte[] held = bytes(1, 2, 3, 4);
        bits = PackedRows.storedPart(new Bits(), false, held).add(lengths(of(), 1, 0));
        rows.holds("256 alone", bits.code("0"), held);
        for (int k = 1; k <= 16; k++) {
            String other = "1".repeat(k);
            bits = PackedRows.storedPart(new Bits(), false, held).add(lengths(of(), 1, 0));
            rows.faults("256 alone, but " + other, bits.code(other).code("0"),
                held, Images.joined(held, bytes(0)), Images.joined(held, bytes(1)),
                Images.joined(held, bytes(255)));
            bits = PackedRows.told(PackedRows.told(PackedRows.made(1, 0, EIGHT), A_END_AND_THREE), 1);
            rows.faults("one distance alone, but " + other, bits.code("0").code("11").code(other).code("10"),
                bytes(65), Images.many(65, 4), bytes(65, 0, 0, 0));
            bits = PackedRows.told(PackedRows.told(PackedRows.made(1, 0, EIGHT), A_END_AND_THREE), 0);
            rows.faults("no distance, " + other, bits.code("0").code("11").code(other).code("10"),
                bytes(65), Images.many(65, 4), bytes(65, 0, 0, 0));
            rows.faults("8 alone of the 19, and " + other, eightAlone(other), bytes(200));
            rows.faults("1 alone of the 19, and " + other, lengthOneAlone(other), bytes(255));
        }
    }

    /** Of the 19 just 8 has a code; byte 0 and the distance, which have none, are told by other bits. */
    private static Bits eightAlone(String other) {
        int[] nineteen = new int[19];
        nineteen[8] = 1;
        Bits bits = PackedRows.made(0, 0, nineteen).code(other);
        for (int s = 1; s <= 256; s++) {
            bits.code("0");
        }
        return bits.code(other).code(Bits.binary(199, 8)).code("11111111");
    }

    /** Of the 19 just 1 has a code; bytes 0 to 254, which have none, are told by other bits. */
    private static Bits lengthOneAlone(String other) {
        int[] nineteen = new int[19];
        nineteen[1] = 1;
        Bits bits = PackedRows.made(0, 0, nineteen);
        for (int s = 0; s <= 254; s++) {
            bits.code(other);
        }
        return bits.code("000").code("01");
    }

    private void symbolsAbove() {
        due.by("a symbol above 285, or a distance above 29;");
        byte[] held = bytes(9, 9, 9, 9);
        for (int s = 284; s <= 287; s++) {
            boolean known = s <= 285;
            Bits bits = PackedRows.fixedPart(true).code(Bits.fixed(9)).code(Bits.fixed(s));
            bits.number(0, known ? Model.LENGTH_EXTRA[s - 257] : 0).code("00000").code(Bits.fixed(256));
            rows.either("symbol " + s, known, bits, Images.many(9, s == 285 ? 259 : s == 284 ? 228 : 1));
        }
        for (int s = 286; s <= 287; s++) {
            // 323 and 387 are their bases by the rule for 265 to 284
            for (int length : new int[] {0, 3, 258, 259, 260, 323, 387}) {
                for (int extra = 0; extra <= 6; extra++) {
                    Bits bits = PackedRows.fixedPart(true).code(Bits.fixed(9)).code(Bits.fixed(s));
                    bits.number(0, extra).code("00000").code(Bits.fixed(256));
                    rows.faults("symbol " + s + " for " + length, bits, Images.many(9, 1 + length));
                }
            }
            Bits alone = PackedRows.fixedPart(true).code(Bits.fixed(9)).code(Bits.fixed(s)).code(Bits.fixed(256));
            rows.faults("symbol " + s + " left out", alone, bytes(9));
            Bits last = PackedRows.fixedPart(true).code(Bits.fixed(9)).code(Bits.fixed(s));
            rows.faults("symbol " + s + " as an end", last, bytes(9));
        }
        for (int d = 30; d <= 31; d++) {
            for (int extra = 0; extra <= 14; extra++) {
                Bits bits = PackedRows.fixedPart(true).code(Bits.fixed(9)).code(Bits.fixed(257));
                bits.code(Bits.binary(d, 5)).number(0, extra).code(Bits.fixed(256));
                rows.faults("distance symbol " + d + ", " + extra + " bits", bits, held, bytes(9), bytes(9, 0, 0, 0));
            }
        }
    }

    private void distanceBeyondTheFirst() {
        due.by("a distance beyond the first byte that was made,");
        byte[] held = PackedRows.mixed(3800);
        for (int d = 0; d < 24; d++) {
            for (int more : new int[] {0, (1 << Model.DISTANCE_EXTRA[d]) - 1}) {
                int distance = Model.DISTANCE_BASE[d] + more;
                if (distance > held.length) {
                    continue;
                }
                byte[] before = Arrays.copyOf(held, distance);
                rows.holds("distance " + distance, PackedRows.match(before, d, more),
                    PackedRows.continued(before, distance, 3));
                byte[] fewer = Arrays.copyOf(held, distance - 1);
                byte[] as0 = PackedRows.continued(Images.joined(bytes(0), fewer), distance, 3);
                rows.faults("distance " + distance + " of one less", PackedRows.match(fewer, d, more),
                    Arrays.copyOfRange(as0, 1, as0.length), fewer, Images.joined(fewer, new byte[3]));
            }
        }
        for (int d = 24; d < 30; d++) {
            rows.faults("distance symbol " + d, PackedRows.match(held, d, 0), Images.joined(held, new byte[3]), held);
        }
        Bits atFirst = PackedRows.fixedPart(true).code(Bits.fixed(257)).code("00000").code(Bits.fixed(256));
        rows.faults("at first", atFirst, new byte[3], NOTHING);
        Bits thenAByte = PackedRows.fixedPart(true).code(Bits.fixed(257)).code("00000");
        rows.faults("at first, then a byte", thenAByte.code(Bits.fixed(9)).code(Bits.fixed(256)),
            bytes(9), bytes(0, 0, 0, 9), bytes(9, 9, 9, 9));
        intoThePieceBefore();
    }

    /** What the piece before holds was not made by this packed row. */
    private void intoThePieceBefore() {
        byte[] full = Images.packedPiece(Model.pack(Images.many(3, 8192)));
        byte[] three = Images.many(3, 3);
        Bits match = PackedRows.fixedPart(true).code(Bits.fixed(257)).code("00000").code(Bits.fixed(256));
        byte[] second = Images.packedPiece(Images.packed(120, 156, match.bytes(), three));
        due.is("into the piece before", Images.laid(Images.joined(full, second)).read(), -12);
        Bits own = PackedRows.fixedPart(true).code(Bits.fixed(3));
        own.code(Bits.fixed(257)).code("00001").code(Bits.fixed(256));
        second = Images.packedPiece(Images.packed(120, 156, own.bytes(), Images.many(3, 4)));
        due.is("one byte into the piece before", Images.laid(Images.joined(full, second)).read(), -12);
        own = PackedRows.fixedPart(true).code(Bits.fixed(3));
        own.code(Bits.fixed(257)).code("00000").code(Bits.fixed(256));
        second = Images.packedPiece(Images.packed(120, 156, own.bytes(), Images.many(3, 4)));
        due.is("just its own", Images.laid(Images.joined(full, second)).read(), 8196);
    }

    private void distanceAboveTheWindow() {
        due.by("or above 256 shifted left by the upper four bits of the first byte of all;");
        for (int upper = 0; upper <= 7; upper++) {
            int x = 16 * upper + 8;
            int y = (31 - 256 * x % 31) % 31;
            int farthest = Math.min(256 << upper, 8180);
            window(x, y, farthest, true);
            window(x, y, farthest - 1, true);
            if (upper < 5) {
                window(x, y, farthest + 1, false);
                window(x, y, 2 * farthest - 20, false);
                window(120, 156, farthest + 1, true);
            }
        }
    }

    private void window(int x, int y, int distance, boolean holds) {
        int d = 0;
        while (d < 29 && Model.DISTANCE_BASE[d + 1] <= distance) {
            d++;
        }
        Bits bits = PackedRows.fixedPart(false, bytes(1, 2, 4)).add(PackedRows.runPart(false, distance));
        bits.add(PackedRows.fixedPart(true)).code(Bits.fixed(257)).code(Bits.binary(d, 5));
        bits.number(distance - Model.DISTANCE_BASE[d], Model.DISTANCE_EXTRA[d]).code(Bits.fixed(256));
        byte[] before = Images.joined(bytes(1, 2, 4), Images.many(3, distance));
        byte[] held = PackedRows.continued(before, distance, 3);
        byte[] packed = Images.packed(x, y, bits.bytes(), held);
        if (holds) {
            rows.holds("distance " + distance + " with " + x, packed, held);
        } else {
            rows.faults("distance " + distance + " with " + x, packed);
            byte[] without = Images.packed(x, y, bits.bytes(), before);
            rows.faults("distance " + distance + " with " + x + ", left out", without);
        }
    }

    private void tooManyBytes() {
        due.by("more bytes than there may be;");
        byte[] most = Images.many(3, 8192);
        byte[] more = Images.many(3, 8193);
        rows.holds("8192 by a length", PackedRows.runPart(true, 8192), most);
        rows.faults("8193 by a length", PackedRows.runPart(true, 8193), more, most, Images.many(3, 8193 - 258));
        Bits byOne = PackedRows.runPart(false, 8191).add(PackedRows.fixedPart(true, bytes(3)));
        rows.holds("8192 by a byte", byOne, most);
        byOne = PackedRows.runPart(false, 8192).add(PackedRows.fixedPart(true, bytes(3)));
        rows.faults("8193 by a byte", byOne, more, most);
        Bits ended = PackedRows.runPart(false, 8192).add(PackedRows.fixedPart(true)).code(Bits.fixed(3));
        rows.faults("8193 by a byte, and no end", ended, most);
        for (int length = 3; length <= 258; length += 255) {
            for (int over = 0; over < 2; over++) {
                Bits bits = PackedRows.runPart(false, 8192 - length + over).add(PackedRows.fixedPart(true));
                bits.code(Bits.fixed(length == 3 ? 257 : 285)).code("00000").code(Bits.fixed(256));
                rows.either(8192 + over + " by a length of " + length, over == 0, bits, over == 0 ? most : more);
                if (over > 0) {
                    rows.faults("8193 by a length of " + length, bits, most, Images.many(3, 8193 - length));
                }
            }
        }
        Bits stored = PackedRows.storedPart(PackedRows.runPart(false, 8190), true, Images.many(3, 2));
        rows.holds("8192 by a stored part", stored, most);
        stored = PackedRows.storedPart(PackedRows.runPart(false, 8190), true, Images.many(3, 3));
        rows.faults("8193 by a stored part", stored, more, most, Images.many(3, 8190));
        stored = PackedRows.storedPart(PackedRows.runPart(false, 8192), true, bytes(3));
        rows.faults("8193 by a stored byte", stored, more, most);
        Bits none = PackedRows.storedPart(PackedRows.runPart(false, 8192), true, NOTHING);
        rows.holds("8192 and a stored part of none", none, most);
        Bits noneFixed = PackedRows.runPart(false, 8192).add(PackedRows.fixedPart(true, NOTHING));
        rows.holds("8192 and a fixed part of none", noneFixed, most);
        rows.faults("far more", PackedRows.runPart(true, 70000), Images.many(3, 70000));
        moreBehindAFullPiece();
    }

    /** Each piece may have 8192 for itself, whatever came before. */
    private void moreBehindAFullPiece() {
        byte[] full = Images.packedPiece(
            Images.packed(120, 156, PackedRows.runPart(true, 8192).bytes(), Images.many(3, 8192)));
        byte[] over = Images.packedPiece(
            Images.packed(120, 156, PackedRows.runPart(true, 8193).bytes(), Images.many(3, 8193)));
        due.is("twice 8192", Images.laid(Images.joined(full, full)).read(), 16384);
        due.is("8193 behind 8192", Images.laid(Images.joined(full, over)).read(), -12);
    }

    private void check() {
        due.by("another check.");
        byte[] held = Images.many(255, 3000);
        byte[] right = Images.packed(120, 156, PackedRows.storedPart(new Bits(), true, held).bytes(), held);
        rows.holds("the right one", right, held);
        for (int bit = 0; bit < 32; bit++) {
            byte[] wrong = right.clone();
            wrong[wrong.length - 1 - bit / 8] ^= (byte) (1 << (bit % 8));
            rows.faults("bit " + bit, wrong);
        }
        byte[] turned = right.clone();
        for (int i = 0; i < 4; i++) {
            turned[turned.length - 4 + i] = right[right.length - 1 - i];
        }
        rows.faults("the lowest byte first", turned);
        byte[] parts = PackedRows.fixedPart(true, bytes(1)).bytes();
        rows.holds("of 1", Images.joined(bytes(120, 156), parts, bytes(0, 2, 0, 2)), bytes(1));
        rows.faults("of none", Images.joined(bytes(120, 156), parts, bytes(0, 0, 0, 1)));
        rows.faults("a and b turned", Images.joined(bytes(120, 156), PackedRows.fixedPart(true, bytes(1, 1)).bytes(),
            bytes(0, 3, 0, 5)));
        rows.holds("of 1 and 1", Images.joined(bytes(120, 156), PackedRows.fixedPart(true, bytes(1, 1)).bytes(),
            bytes(0, 5, 0, 3)), bytes(1, 1));
        notReduced();
    }

    /** As numbers of 16 bits a and b may be told above 65520 too, but they are never so. */
    private void notReduced() {
        byte[] sum = Images.joined(Images.many(255, 256), bytes(240));
        byte[] parts = PackedRows.fixedPart(true, sum).bytes();
        byte[] right = Images.check(sum);
        due.is("a is 0", right[2] * 256 + right[3], 0);
        rows.holds("a is 0", Images.joined(bytes(120, 156), parts, right), sum);
        byte[] above = {right[0], right[1], (byte) 255, (byte) 241};
        rows.faults("a is 65521", Images.joined(bytes(120, 156), parts, above));
    }
}
