import java.util.Arrays;
import java.util.HashMap;
import java.util.Map;
import java.util.Random;

/**
 * A row whose second part has codes of all lengths from 1 to 15: with 256, which comes once, each count
 * is more than all but the one right below it together, so that each length has a symbol of its own.
 *
 * Its first part has drawn bytes. The second one takes three of them at a time, each time a match,
 * behind one or two letters that begin no three bytes which came before.
 */
final class DeepRow {
    static final int[] LETTER_COUNTS = {1, 1, 3, 4, 7, 11, 18, 29, 47, 76, 123, 199, 322, 521};
    /** Of the three symbols that come once both letters have lesser numbers than 256, which has 14. */
    static final int[] LETTER_LENGTHS = {15, 15, 13, 12, 11, 10, 9, 8, 7, 6, 5, 4, 3, 2};
    static final int FIRST_LETTER = 40;
    static final int MATCHES = 843;
    private static final int FIRST_PART = 4096;
    private static final int SEED = 5;

    private final Random random = new Random(31);
    private final int[] left = LETTER_COUNTS.clone();
    private int lettersLeft = Arrays.stream(LETTER_COUNTS).sum();
    private final Map<Integer, Integer> seen = new HashMap<>();
    private final byte[] row = Arrays.copyOf(
        Content.filled(1, SEED, FIRST_PART), FIRST_PART + lettersLeft + 3 * MATCHES);
    private int length = FIRST_PART;
    private int notNext = -1;

    private DeepRow() {
        for (int p = 0; p + 3 <= FIRST_PART; p++) {
            seen.merge(three(p), 1, Integer::sum);
        }
    }

    static Content content() {
        DeepRow deep = new DeepRow();
        for (int matches = MATCHES; matches > 0; matches--) {
            deep.addGroup(deep.lettersLeft > matches ? 2 : 1);
        }
        return new Content().fill(1, SEED, FIRST_PART)
            .bytes(Arrays.copyOfRange(deep.row, FIRST_PART, deep.length));
    }

    private int three(int p) {
        return (row[p] & 255) << 16 | (row[p + 1] & 255) << 8 | row[p + 2] & 255;
    }

    private int anyLetter() {
        int nth = random.nextInt(lettersLeft);
        int letter = 0;
        while (nth >= left[letter]) {
            nth -= left[letter];
            letter++;
        }
        left[letter]--;
        lettersLeft--;
        return letter;
    }

    /** Some letters and a match, drawn again until they are nothing else. */
    private void addGroup(int letters) {
        for (int attempt = 0; attempt < 10000; attempt++) {
            int[] drawn = new int[letters];
            for (int i = 0; i < letters; i++) {
                drawn[i] = anyLetter();
                row[length + i] = (byte) (FIRST_LETTER + drawn[i]);
            }
            int from = random.nextInt(FIRST_PART - 3);
            System.arraycopy(row, from, row, length + letters, 3);
            if (isApart(letters)) {
                notNext = row[from + 3];
                for (int p = length - 2; p < length + letters + 1; p++) {
                    seen.merge(three(p), 1, Integer::sum);
                }
                length += letters + 3;
                return;
            }
            for (int letter : drawn) {
                left[letter]++;
                lettersLeft++;
            }
        }
        throw new IllegalStateException("no letters and match fit");
    }

    /** The match before ends here, the letters begin no match, and the match is with one place alone. */
    private boolean isApart(int letters) {
        boolean apart = row[length] != notNext && seen.getOrDefault(three(length + letters), 0) == 1;
        for (int i = 0; i < letters; i++) {
            apart &= !seen.containsKey(three(length + i));
        }
        return apart && (letters < 2 || three(length) != three(length + 1));
    }
}
