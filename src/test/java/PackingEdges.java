import java.util.ArrayList;
import java.util.Arrays;
import java.util.Collections;
import java.util.HashSet;
import java.util.List;
import java.util.Random;
import java.util.Set;
import java.util.TreeSet;

/** When a row is packed: its parts, matches, codes, and what tells them. */
final class PackingEdges {
    private static final int[] ORDER = {
        16, 17, 18, 0, 8, 7, 9, 6, 10, 5, 11, 4, 12, 3, 13, 2, 14, 1, 15
    };
    private static final String LENGTHS =
        "LENGTHS of codes for counts, with a limit (15, and 7 for the 19): none for a count 0; "
        + "1, when there is just one that is not;";

    private final Due due;
    private final List<Part> drawnParts = new ArrayList<>();

    private PackingEdges(Due due) {
        this.due = due;
    }

    static void all(Due due) {
        PackingEdges edges = new PackingEdges(due);
        edges.parts();
        edges.threeBytesInThePart();
        edges.placesBefore();
        edges.lengthOfAMatch();
        edges.candidates();
        edges.best();
        edges.fromTheFirstPlaceOn();
        edges.drawParts();
        edges.counts();
        edges.fewCounts();
        edges.limitOfTheNineteen();
        edges.limitOfSymbols();
        edges.firstList();
        edges.nextLists();
        edges.orderOfLists();
        edges.taken();
        edges.smallestHeader();
        edges.stretches();
        edges.zerosTold();
        edges.othersTold();
        edges.countsOfWhatIsTold();
        edges.storedIfNoMore();
        edges.fixedIfNoMore();
    }

    private static String times(int n, String token) {
        return String.join(" ", Collections.nCopies(n, token));
    }

    private void tokens(String what, Content content, String... want) {
        List<Part> parts = content.parts();
        due.is(what + ": parts", parts.size(), want.length);
        for (int i = 0; i < want.length && i < parts.size(); i++) {
            due.is(what + ": part " + i, parts.get(i).tokens(), want[i]);
        }
    }

    private void parts() {
        due.by("WHEN A ROW IS PACKED: it is cut in parts of 4096 bytes, the last one what is left.");
        String run = times(15, "258@1");
        tokens("4095", new Content().fill(0, 7, 4095), "7 " + run + " 224@1");
        String first = "7 " + run + " 225@1";
        tokens("4096", new Content().fill(0, 7, 4096), first);
        tokens("4097", new Content().fill(0, 7, 4097), first, "7");
        tokens("4098", new Content().fill(0, 7, 4098), first, "7 7");
        tokens("4099", new Content().fill(0, 7, 4099), first, "3@1");
        tokens("8191", new Content().fill(0, 7, 8191), first, run + " 225@1");
        tokens("8192", new Content().fill(0, 7, 8192), first, run + " 226@1");
        Run x = new Content().fill(0, 7, 8192 + 4097).closed(false);
        byte[] image = x.image();
        int second = 2 + (image[0] & 255) + 256 * image[1];
        due.is("parts of the second piece", Part.allOf(image, second + 2).size(), 2);
    }

    private void threeBytesInThePart() {
        due.by("A MATCH at a place p, from which on there are three bytes in its part,");
        tokens("three at the end", new Content().text("abc").fill(0, 1, 40).text("abc"), "97 98 99 1 39@1 3@43");
        tokens("two at the end", new Content().text("abc").fill(0, 1, 40).text("ab"), "97 98 99 1 39@1 97 98");
        tokens("one at the end", new Content().text("abc").fill(0, 1, 40).text("a"), "97 98 99 1 39@1 97");
        String run = "97 98 99 1 " + times(15, "258@1");
        tokens("three at the end of a part", new Content().text("abc").fill(0, 1, 4090).text("abcxyz"),
            run + " 219@1 3@4093", "120 121 122");
        tokens("two at the end of a part", new Content().text("abc").fill(0, 1, 4091).text("abcxyz"),
            run + " 220@1 97 98", "99 120 121 122");
        tokens("one at the end of a part", new Content().text("abc").fill(0, 1, 4092).text("abcxyz"),
            run + " 221@1 97", "98 99 120 121 122");
        tokens("at the beginning of a part", new Content().text("abc").fill(0, 1, 4093).text("abcxyz"),
            run + " 222@1", "3@4096 120 121 122");
    }

    private void placesBefore() {
        due.by("is with a place q before it, at most 32768 away, when three bytes from q on are those from p on;");
        String run = "97 98 99 1 " + times(15, "258@1") + " 222@1";
        String next = times(15, "258@1");
        tokens("the farthest of all", new Content().text("abc").fill(0, 1, 8186).text("abc"),
            run, next + " 223@1 3@8189");
        tokens("two bytes are not enough", new Content().text("abc").fill(0, 1, 40).text("abd").fill(0, 1, 20),
            "97 98 99 1 39@1 97 98 100 18@21 1 1");
        tokens("the first byte is another", new Content().text("abc").fill(0, 1, 40).text("dbc").fill(0, 1, 20),
            "97 98 99 1 39@1 100 22@43");
        tokens("one before", new Content().fill(0, 1, 40), "1 39@1");
        tokens("a place within a match", new Content().text("abcde1abcde2cde").fill(0, 1, 30),
            "97 98 99 100 101 49 5@6 50 3@4 1 29@1");
        tokens("a place that goes over p", new Content().text("ababababa").fill(0, 1, 30), "97 98 7@2 1 29@1");
        // three bytes that only end in the next part are those of a place as well
        tokens("a place over the border", new Content().fill(0, 1, 4094).text("abcdef").fill(0, 2, 9).text("abc"),
            "1 " + times(15, "258@1") + " 223@1 97 98", "99 100 101 102 2 8@1 3@15");
    }

    private void lengthOfAMatch() {
        due.by("its LENGTH is how many bytes from both on are the same, at most 258, and not beyond p's part.");
        tokens("258", new Content().fill(0, 9, 259), "9 258@1");
        tokens("259", new Content().fill(0, 9, 260), "9 258@1 9");
        tokens("260", new Content().fill(0, 9, 261), "9 258@1 9 9");
        tokens("261", new Content().fill(0, 9, 262), "9 258@1 3@1");
        byte[] drawn = Content.filled(1, 5, 400);
        for (int n : new int[] {3, 4, 257, 258, 259, 260, 261, 400}) {
            Content content = new Content().fill(1, 5, 400).values(0).bytes(Arrays.copyOf(drawn, n)).fill(0, 0, 300);
            List<String> tokens = content.parts().get(0).tokens;
            int at = tokens.indexOf(Math.min(n, 258) + "@401");
            due.holds("the first of " + n + " bytes again", at > 0);
            due.is("how often", Collections.frequency(tokens, "3@401"), n == 3 || n == 261 ? 1 : 0);
        }
        tokens("up to the end of a part", new Content().text("abcdef").fill(0, 1, 4086).text("abcdef").fill(0, 1, 20),
            "97 98 99 100 101 102 1 " + times(15, "258@1") + " 215@1 4@4092", "22@4092");
        tokens("from before the border", new Content().fill(0, 1, 4094).text("abcdef").fill(0, 2, 9).text("abcdef3"),
            "1 " + times(15, "258@1") + " 223@1 97 98", "99 100 101 102 2 8@1 6@15 51");
        tokens("up to the end of the row", new Content().text("abcdef").fill(0, 1, 30).text("abcde"),
            "97 98 99 100 101 102 1 29@1 5@36");
    }

    private void candidates() {
        due.by("Its CANDIDATES are the latest (most near) of such places, at most 16 of them;");
        for (int between = 0; between <= 20; between++) {
            Content content = new Content().text("abcdefgh");
            StringBuilder want = new StringBuilder("97 98 99 100 101 102 103 104");
            for (int i = 0; i < between; i++) {
                content.text("abc").values(128 + i);
                want.append(i == 0 ? " 3@8 " : " 3@4 ").append(128 + i);
            }
            content.text("abcdefgh").fill(0, 1, 60);
            // with 16 or more between, the one of eight bytes is none of the candidates
            int far = 8 + 4 * between;
            want.append(between < 16 ? " 8@" + far : " 3@4 5@" + far).append(" 1 59@1");
            tokens(between + " between", content, want.toString());
        }
        // places with another third byte are none of the sixteen
        Content content = new Content().text("abcdefgh");
        StringBuilder want = new StringBuilder("97 98 99 100 101 102 103 104");
        for (int i = 0; i < 100; i++) {
            content.text("ab").values(128 + i);
            want.append(" 97 98 ").append(128 + i);
        }
        tokens("a hundred others between", content.text("abcdefgh").fill(0, 1, 60), want + " 8@308 1 59@1");
    }

    private void best() {
        due.by("the BEST one is that of greatest length, of several the nearest one.");
        tokens("the longer one is farther", new Content().text("abcdef1abcde2abcd3abcdef").fill(0, 1, 40),
            "97 98 99 100 101 102 49 5@7 50 4@6 51 6@18 1 39@1");
        tokens("the longer one is nearer", new Content().text("abc1abcdef2abcdef").fill(0, 1, 40),
            "97 98 99 49 3@4 100 101 102 50 6@7 1 39@1");
        tokens("the nearest of two", new Content().text("abcde1abcde2abcde").fill(0, 1, 40),
            "97 98 99 100 101 49 5@6 50 5@6 1 39@1");
        tokens("the nearer of two that are longest", new Content().text("abcde1abcde2abc3abcde").fill(0, 1, 40),
            "97 98 99 100 101 49 5@6 50 3@6 51 5@10 1 39@1");
        // all of them reach as far as the part does, so that they are of the same length
        tokens("as long as the part allows", new Content().text("abcde1abcd2abc").fill(0, 1, 4079).text("abcd"),
            "97 98 99 100 101 49 4@6 50 3@5 1 " + times(15, "258@1") + " 208@1 3@4082", "100");
    }

    private void fromTheFirstPlaceOn() {
        due.by("In each part from its first place on: if there is no best match at p, its byte is a symbol; "
            + "otherwise the best match's length and distance, and p goes on behind it.");
        tokens("no match at all", new Content().bytes(withoutThree(4, 60, 0)),
            joinedValues(withoutThree(4, 60, 0)));
        tokens("a longer one from the next place on is not looked for",
            new Content().text("abc1bcdef2abcdef").fill(0, 1, 40),
            "97 98 99 49 98 99 100 101 102 50 3@10 3@7 1 39@1");
        tokens("the first place of the second part", new Content().fill(0, 1, 4096).text("ab").fill(0, 1, 20),
            "1 " + times(15, "258@1") + " 225@1", "97 98 18@20 1 1");
    }

    private static String joinedValues(byte[] row) {
        List<String> values = new ArrayList<>();
        for (byte b : row) {
            values.add("" + (b & 255));
        }
        return String.join(" ", values);
    }

    /**
     * Letters 0 .. letters - 1, of which no three come twice, each about as often as the others, but
     * the letter 0 not more often than rare, if that is not 0.
     */
    private static byte[] withoutThree(int letters, int n, int rare) {
        Set<Integer> seen = new HashSet<>();
        int[] used = new int[letters];
        byte[] row = new byte[n];
        for (int i = 0; i < n; i++) {
            int two = i < 2 ? i - 2 : row[i - 2] * letters + row[i - 1];
            int best = -1;
            for (int letter = rare > 0 && used[0] >= rare ? 1 : 0; letter < letters; letter++) {
                boolean fresh = !seen.contains(two * letters + letter);
                if (fresh && (best < 0 || used[letter] < used[best])) {
                    best = letter;
                }
            }
            if (best < 0) {
                return Arrays.copyOf(row, i);
            }
            seen.add(two * letters + best);
            row[i] = (byte) best;
            used[best]++;
        }
        return row;
    }

    /** The same row with another byte for each letter. */
    private static byte[] written(byte[] row, int... alphabet) {
        byte[] bytes = new byte[row.length];
        for (int i = 0; i < row.length; i++) {
            bytes[i] = (byte) alphabet[row[i] & 255];
        }
        return bytes;
    }

    /** Many made parts of rows of all kinds. */
    private void drawParts() {
        Random random = new Random(11);
        for (int round = 0; round < 900; round++) {
            byte[] row = round % 4 == 0 ? rowWithoutMatches(random)
                : round % 4 == 1 ? longRow(random) : rowWithMatches(random);
            byte[] image = new Content().bytes(row).closed(false).image();
            if ((image[1] & 128) == 0) {
                for (Part part : Part.allOf(image, 2)) {
                    if (part.sort == 2) {
                        drawnParts.add(part);
                    }
                }
            }
        }
    }

    private static byte[] rowWithoutMatches(Random random) {
        int letters = 5 + random.nextInt(20);
        int first = random.nextInt(256 - letters);
        int[] alphabet = new int[letters];
        for (int i = 0; i < letters; i++) {
            alphabet[i] = first + i;
        }
        byte[] row = written(withoutThree(letters, 100 + random.nextInt(900), random.nextInt(9)), alphabet);
        // with a run at its end there is one distance
        return random.nextBoolean() ? row : Images.joined(row, Images.many(first, random.nextInt(90)));
    }

    /** Letters of very uneven counts, so that codes get long. */
    private static byte[] longRow(Random random) {
        byte[] row = new byte[1500 + random.nextInt(2300)];
        double skew = 1 + 12 * random.nextDouble();
        int letters = 100 + random.nextInt(157);
        for (int i = 0; i < row.length; i++) {
            row[i] = (byte) (letters * Math.pow(random.nextDouble(), skew));
        }
        return row;
    }

    /** Letters of uneven counts, and stretches that come again, of lengths and distances up to some limit. */
    private static byte[] rowWithMatches(Random random) {
        byte[] row = new byte[60 + random.nextInt(random.nextInt(4) == 0 ? 3000 : 600)];
        double skew = 1 + 7 * random.nextDouble();
        int letters = 2 + random.nextInt(random.nextBoolean() ? 12 : 120);
        int again = random.nextInt(200);
        int longest = 3 + random.nextInt(random.nextBoolean() ? 20 : 260);
        int farthest = 1 + random.nextInt(random.nextBoolean() ? 10 : 2000);
        int i = 0;
        while (i < row.length) {
            if (i > 0 && random.nextInt(400) < again) {
                int from = Math.max(0, i - 1 - random.nextInt(farthest));
                for (int k = 3 + random.nextInt(longest - 2); k > 0 && i < row.length; k--) {
                    row[i++] = row[from++];
                }
            } else {
                row[i++] = (byte) (letters * Math.pow(random.nextDouble(), skew));
            }
        }
        return row;
    }

    private void lengthsAreDue(String what, int[] counts, int limit, int[] lengths) {
        int[] want = Model.lengths(counts, limit);
        due.is(what, Arrays.toString(Arrays.copyOf(lengths, counts.length)), Arrays.toString(want));
    }

    private void counts() {
        due.by("A part's COUNTS are how often symbols, with one 256 at its end, and distances come.");
        due.holds("many made parts were drawn", drawnParts.size() > 300);
        for (Part part : drawnParts) {
            due.is("256 comes", part.symbolCounts[256], 1);
            lengthsAreDue("lengths of symbols", part.symbolCounts, 15, part.symbolLengths);
            lengthsAreDue("lengths of distances", part.distanceCounts, 15, part.distanceLengths);
        }
        // eight letters, 60 times each, and 256 once: one of them and 256 have longer codes
        byte[] eight = written(withoutThree(8, 480, 0), 10, 20, 30, 40, 50, 60, 70, 80);
        Part part = new Content().bytes(eight).parts().get(0);
        due.is("a made part without matches", part.sort, 2);
        due.is("256 comes once", part.symbolLengths[256], 4);
        due.is("the last letter", part.symbolLengths[80], 3);
    }

    private void fewCounts() {
        due.by(LENGTHS);
        boolean none = false;
        boolean one = false;
        for (Part part : drawnParts) {
            for (int s = 0; s < part.symbolLengths.length; s++) {
                due.holds("a symbol has a length just if it comes",
                    (part.symbolLengths[s] > 0) == (part.symbolCounts[s] > 0));
            }
            int distances = 0;
            for (int d = 0; d < 30; d++) {
                distances += part.distanceCounts[d] > 0 ? 1 : 0;
            }
            int last = part.distanceLengths.length - 1;
            if (distances == 0) {
                none = true;
                due.is("no distance", Arrays.toString(part.distanceLengths), "[0]");
            }
            if (distances == 1) {
                one = true;
                due.is("one distance: its length", part.distanceLengths[last], 1);
                due.is("and no other", Arrays.stream(part.distanceLengths).sum(), 1);
            }
        }
        due.holds("parts without a distance were reached", none);
        due.holds("parts with one distance were reached", one);
        Part run = new Content().fill(0, 7, 4096).parts().get(0);
        due.is("a run: made", run.sort, 2);
        due.is("a run: its distance", Arrays.toString(run.distanceLengths), "[1]");
    }

    private void limitOfTheNineteen() {
        due.by(LENGTHS);
        int limited = 0;
        int longest = 0;
        for (Part part : drawnParts) {
            lengthsAreDue("lengths of the 19", part.toldCounts, 7, part.nineteen);
            limited += Arrays.equals(part.nineteen, Model.lengths(part.toldCounts, 8)) ? 0 : 1;
            longest = Math.max(longest, Arrays.stream(part.symbolLengths).max().orElse(0));
        }
        due.holds("parts at which the limit 7 tells were reached", limited > 0);
        due.holds("lengths of symbols far above 7 were reached", longest >= 11);
    }

    /** Lengths up to 15 come; for one that were above 15 a part of 4096 bytes has too few symbols. */
    private void limitOfSymbols() {
        due.by(LENGTHS);
        Content content = DeepRow.content();
        Part deep = content.parts().get(1);
        due.is("made", deep.sort, 2);
        for (int i = 0; i < DeepRow.LETTER_COUNTS.length; i++) {
            int letter = DeepRow.FIRST_LETTER + i;
            due.is("how often letter " + i + " comes", deep.symbolCounts[letter], DeepRow.LETTER_COUNTS[i]);
            due.is("the length of letter " + i, deep.symbolLengths[letter], DeepRow.LETTER_LENGTHS[i]);
        }
        due.is("the length of 256", deep.symbolLengths[256], 14);
        due.is("how often three bytes come again", deep.symbolCounts[257], DeepRow.MATCHES);
        due.is("the length of 257", deep.symbolLengths[257], 1);
        Run x = content.closed(false);
        due.is("the image is not the model's from",
            Arrays.mismatch(x.image(), Model.image(content.row(), false)), -1);
        due.is("read()", x.read(), content.row().length);
        for (int i = 4096; i < content.row().length; i += 37) {
            due.is("byteAt(" + i + ")", x.byteAt(i), content.row()[i] & 255);
        }
    }

    /** The document's words by hand, so that the model is not trusted blindly. */
    private void byHand(int[] counts, int limit, int... want) {
        due.is("lengths for " + Arrays.toString(counts) + ", limit " + limit,
            Arrays.toString(Model.lengths(counts, limit)), Arrays.toString(want));
    }

    private void firstList() {
        due.by("otherwise by LISTS: the first one has the symbols with counts, by rising counts, the same by number;");
        byHand(new int[] {5, 0, 3}, 15, 1, 0, 1);
        // of three the same the two of lesser number are the first ones, and are taken twice
        byHand(new int[] {4, 4, 4}, 15, 2, 2, 1);
        byHand(new int[] {4, 0, 4, 1}, 15, 2, 0, 1, 2);
        int told = 0;
        for (Part part : drawnParts) {
            lengthsAreDue("lengths", part.symbolCounts, 15, part.symbolLengths);
            told += Arrays.equals(Model.lengths(part.symbolCounts, 15), byFallingNumber(part.symbolCounts)) ? 0 : 1;
        }
        due.holds("parts at which the number tells were reached", told > 50);
    }

    /** What lengths would be if of the same counts the greatest number came first. */
    private static int[] byFallingNumber(int[] counts) {
        return turned(Model.lengths(turned(counts), 15));
    }

    private static int[] turned(int[] row) {
        int[] turned = new int[row.length];
        for (int i = 0; i < row.length; i++) {
            turned[i] = row[row.length - 1 - i];
        }
        return turned;
    }

    private void nextLists() {
        due.by("each next one, limit lists in all, has these symbols again, and PAIRS: the first and second item of "
            + "the list before, the third and fourth, and so on, as items with the counts of both together;");
        // one list: two items at most can be taken; two lists: three symbols of length 2 at most, and so on
        byHand(new int[] {1, 1}, 1, 1, 1);
        byHand(new int[] {1, 1, 2, 4}, 2, 2, 2, 2, 2);
        byHand(new int[] {1, 1, 2, 4}, 3, 3, 3, 2, 1);
        byHand(new int[] {1, 1, 2, 4, 8}, 3, 3, 3, 3, 3, 1);
        byHand(new int[] {1, 1, 2, 4, 8}, 4, 4, 4, 3, 2, 1);
        int limited = 0;
        for (Part part : drawnParts) {
            limited += Arrays.equals(part.nineteen, Model.lengths(part.toldCounts, 6)) ? 0 : 1;
            lengthsAreDue("lengths of the 19", part.toldCounts, 7, part.nineteen);
        }
        due.holds("parts at which seven lists are more than six were reached", limited > 0);
    }

    private void orderOfLists() {
        due.by("by rising counts, of the same a symbol before pairs, pairs in their order.");
        // 1 1 2 2: the pair of both 1 has 2 as well, and comes behind the symbols
        byHand(new int[] {1, 1, 2, 2}, 15, 2, 2, 2, 2);
        byHand(new int[] {1, 1, 1, 1, 2, 2}, 15, 3, 3, 3, 3, 2, 2);
        byHand(new int[] {3, 3, 1, 1, 1}, 15, 2, 2, 3, 3, 2);
        int told = 0;
        for (Part part : drawnParts) {
            lengthsAreDue("lengths", part.symbolCounts, 15, part.symbolLengths);
            lengthsAreDue("lengths of distances", part.distanceCounts, 15, part.distanceLengths);
            int[] other = Model.lengthsPairsFirst(part.symbolCounts, 15);
            told += Arrays.equals(Model.lengths(part.symbolCounts, 15), other) ? 0 : 1;
        }
        due.holds("parts at which the order of symbols and pairs tells were reached", told > 50);
    }

    private void taken() {
        due.by("Of the last list the first 2 m - 2 items are taken, m being how many symbols have counts; a pair that "
            + "is taken takes both of its items; a symbol's length is how often it is taken.");
        byHand(new int[] {7, 9}, 15, 1, 1);
        byHand(new int[] {7, 9}, 7, 1, 1);
        byHand(new int[] {1, 2, 3, 4, 5}, 15, 3, 3, 2, 2, 2);
        byHand(new int[] {10, 1, 1}, 15, 1, 2, 2);
        for (Part part : drawnParts) {
            due.is("symbols: the sum of 2 ^ (15 - length)", sum(part.symbolLengths), 1 << 15);
            due.is("the 19: the sum of 2 ^ (15 - length)", sum(part.nineteen), 1 << 15);
            int distances = sum(part.distanceLengths);
            due.holds("distances: the sum", distances == 1 << 15 || distances == 1 << 14 || distances == 0);
        }
    }

    private static int sum(int[] lengths) {
        int sum = 0;
        for (int length : lengths) {
            sum += length > 0 ? 1 << (15 - length) : 0;
        }
        return sum;
    }

    private void smallestHeader() {
        due.by("A made part has h and d as small as the lengths that are not 0 allow, c likewise;");
        TreeSet<Integer> allC = new TreeSet<>();
        TreeSet<Integer> allH = new TreeSet<>();
        TreeSet<Integer> allD = new TreeSet<>();
        for (Part part : drawnParts) {
            due.holds("h " + part.h, part.h == 0 || part.symbolLengths[256 + part.h] > 0);
            due.holds("d " + part.d, part.d == 0 || part.distanceLengths[part.d] > 0);
            due.holds("c " + part.c, part.c == 0 || part.nineteen[ORDER[part.c + 3]] > 0);
            allC.add(part.c);
            allH.add(part.h);
            allD.add(part.d);
        }
        due.holds("many c were reached: " + allC, allC.size() >= 4);
        due.holds("nearly all h from 0 to 29 were reached: " + allH, allH.size() >= 25);
        due.holds("the least and the greatest h were reached", allH.contains(0) && allH.contains(29));
        due.holds("many d were reached: " + allD, allD.size() >= 15 && allD.contains(0));
        Part none = new Content().bytes(written(withoutThree(6, 216, 0), 10, 20, 30, 40, 50, 60)).parts().get(0);
        due.is("without matches: h", none.h, 0);
        due.is("without matches: d", none.d, 0);
        Part run = new Content().fill(0, 7, 4096).parts().get(0);
        due.is("258 comes: h", run.h, 29);
        due.is("the distance 1 alone: d", run.d, 0);
        due.is("a length 1: c", run.c, 14);
    }

    private void stretches() {
        due.by("the row of lengths is told so: of a stretch of the same ones, as long as it goes "
            + "(also over the border of symbols and distances),");
        int over = 0;
        for (Part part : drawnParts) {
            due.is("told", part.told(), dueTold(part));
            int border = part.symbolLengths.length;
            int[] row = wholeRow(part);
            boolean same = row[border - 1] == row[border];
            int from = border - 1;
            while (same && from > 0 && row[from - 1] == row[border]) {
                from--;
            }
            int to = border;
            while (same && to < row.length && row[to] == row[border]) {
                to++;
            }
            // with both apart it would be told in another way
            over += same && !(stretch(row[from], to - from)).equals(
                stretch(row[from], border - from) + " " + stretch(row[from], to - border)) ? 1 : 0;
        }
        due.holds("stretches over the border that tell were reached", over > 0);
        stretchOverTheBorder();
        stretchOfOnes();
    }

    /** Nearly all symbols are 285, half of them from 1 and half from 2: the lengths of 285 and both are 1. */
    private void stretchOfOnes() {
        byte[] turns = new byte[2000];
        for (int i = 0; i < turns.length; i++) {
            turns[i] = (byte) (7 + i % 2);
        }
        Part part = new Content().fill(0, 7, 2000).bytes(turns).parts().get(0);
        due.is("made", part.sort, 2);
        due.is("the length of 285", part.symbolLengths[285], 1);
        due.is("lengths of distances", Arrays.toString(part.distanceLengths), "[1, 1]");
        int end = part.told.size();
        due.is("told at the end", String.join(" ", part.told.subList(end - 3, end)), "1 1 1");
    }

    /** Matches of three bytes alone, as often from 1 as from 2, 3 and 4: 257 and all distances have 2 bits. */
    private void stretchOverTheBorder() {
        Content content = new Content();
        for (int k = 0; k < 100; k++) {
            int distance = 1 + k % 4;
            int[] values = new int[distance + 3];
            for (int i = 0; i < values.length; i++) {
                // such that no three come again but those that are to
                int fresh = 40 * i + (k / 4 + (9 + 5 * i) * distance) % 40;
                values[i] = i < distance ? fresh : values[i - distance];
            }
            content.values(values);
        }
        Part part = content.parts().get(0);
        due.is("made", part.sort, 2);
        due.is("h", part.h, 1);
        due.is("the length of 257", part.symbolLengths[257], 2);
        due.is("lengths of distances", Arrays.toString(part.distanceLengths), "[2, 2, 2, 2]");
        int end = part.told.size();
        due.is("told at the end", String.join(" ", part.told.subList(end - 2, end)), "2 16x4");
    }

    private static int[] wholeRow(Part part) {
        int[] row = Arrays.copyOf(part.symbolLengths, part.symbolLengths.length + part.distanceLengths.length);
        System.arraycopy(part.distanceLengths, 0, row, part.symbolLengths.length, part.distanceLengths.length);
        return row;
    }

    private static String dueTold(Part part) {
        int[] row = wholeRow(part);
        List<String> told = new ArrayList<>();
        int at = 0;
        while (at < row.length) {
            int end = at;
            while (end < row.length && row[end] == row[at]) {
                end++;
            }
            told.add(stretch(row[at], end - at));
            at = end;
        }
        return String.join(" ", told);
    }

    /** How a stretch is told, by division instead of step by step. */
    private static String stretch(int length, int n) {
        List<String> told = new ArrayList<>();
        int left = n;
        if (length == 0) {
            told.addAll(Collections.nCopies(n / 138, "18x138"));
            left = n % 138;
            if (left >= 3) {
                told.add((left >= 11 ? "18x" : "17x") + left);
                left = 0;
            }
        } else {
            told.add("" + length);
            told.addAll(Collections.nCopies((n - 1) / 6, "16x6"));
            left = (n - 1) % 6;
            if (left >= 3) {
                told.add("16x" + left);
                left = 0;
            }
        }
        told.addAll(Collections.nCopies(left, "" + length));
        return String.join(" ", told);
    }

    private void zerosTold() {
        due.by("0 by 18 as often as 11 are left (138 at most each), then by 17 if 3 are left, then one by one;");
        int[] zeros = {0, 1, 2, 3, 4, 9, 10, 11, 12, 137, 138, 139, 140, 141, 148, 149, 150, 200, 248};
        String[] want = {
            "", "0", "0 0", "17x3", "17x4", "17x9", "17x10", "18x11", "18x12", "18x137", "18x138", "18x138 0",
            "18x138 0 0", "18x138 17x3", "18x138 17x10", "18x138 18x11", "18x138 18x12", "18x138 18x62", "18x138 18x110"
        };
        byte[] eight = withoutThree(8, 500, 0);
        for (int i = 0; i < zeros.length; i++) {
            int[] alphabet = new int[8];
            for (int k = 0; k < 8; k++) {
                alphabet[k] = zeros[i] + k;
            }
            Part part = new Content().bytes(written(eight, alphabet)).parts().get(0);
            due.is(zeros[i] + " zeros: made", part.sort, 2);
            List<String> first = new ArrayList<>();
            for (String told : part.told) {
                if (told.startsWith("17x") || told.startsWith("18x") || told.equals("0")) {
                    first.add(told);
                } else {
                    break;
                }
            }
            due.is(zeros[i] + " zeros at first", String.join(" ", first), want[i]);
        }
        // 256 zeros can't be, as a byte comes; of 255 between two lengths none is left
        byte[] row = written(eight, 0, 1, 2, 3, 4, 5, 6, 255);
        Part part = new Content().bytes(row).parts().get(0);
        due.holds("248 zeros between", part.told().contains(" 18x138 18x110 "));
    }

    private void othersTold() {
        due.by("others once, then by 16 as often as 3 are left (6 at most each), then one by one;");
        String[] want = {
            "", "4", "4 4", "4 4 4", "4 16x3", "4 16x4", "4 16x5", "4 16x6", "4 16x6 4", "4 16x6 4 4", "4 16x6 16x3",
            "4 16x6 16x4", "4 16x6 16x5", "4 16x6 16x6", "4 16x6 16x6 4", "4 16x6 16x6 4 4"
        };
        // the letter 0 is rare, so that it alone has the length 5, as 256 has
        byte[] sixteen = withoutThree(16, 700, 12);
        for (int n = 1; n <= 15; n++) {
            int[] alphabet = new int[16];
            alphabet[0] = 250;
            for (int k = 1; k < 16; k++) {
                // so many side by side from 20 on, the others apart
                alphabet[k] = k <= n ? 19 + k : 60 + 10 * k;
            }
            Part part = new Content().bytes(written(sixteen, alphabet)).parts().get(0);
            due.is(n + " side by side: made", part.sort, 2);
            due.is("the length of the rare one", part.symbolLengths[250], 5);
            List<String> first = new ArrayList<>();
            for (String told : part.told.subList(1, part.told.size())) {
                if (told.equals("4") || told.startsWith("16x")) {
                    first.add(told);
                } else {
                    break;
                }
            }
            due.is(n + " side by side", String.join(" ", first), want[n]);
        }
    }

    private void countsOfWhatIsTold() {
        due.by("the lengths of the 19 come from the counts of what is told so.");
        for (Part part : drawnParts) {
            lengthsAreDue("lengths of the 19", part.toldCounts, 7, part.nineteen);
        }
        boolean[] reached = new boolean[19];
        for (Part part : drawnParts) {
            for (int s = 0; s < 19; s++) {
                reached[s] |= part.toldCounts[s] > 0;
            }
        }
        for (int s : new int[] {0, 1, 2, 3, 4, 5, 6, 7, 8, 9, 10, 11, 16, 17, 18}) {
            due.holds(s + " of the 19 was reached", reached[s]);
        }
    }

    private void storedIfNoMore() {
        due.by("A part is stored, if that takes no more bits (its first three and those up to the end of a byte "
            + "among them) than the others,");
        // how far the best of the others is from stored: reached must be one less, the same, one more
        TreeSet<Integer> reachedFixed = new TreeSet<>();
        TreeSet<Integer> reachedMade = new TreeSet<>();
        TreeSet<Integer> leftBits = new TreeSet<>();
        Random random = new Random(21);
        for (int round = 0; round < 2500; round++) {
            Content content = nearTie(random, round % 2 == 0);
            byte[] row = content.row();
            Bits first = Model.sorts(16, row, 0, 4096)[2];
            Bits[] sorts = Model.sorts(16 + first.length(), row, 4096, row.length);
            int stored = sorts[0].length();
            int best = Math.min(sorts[1].length(), sorts[2].length());
            if (Math.abs(best - stored) > 1) {
                continue;
            }
            List<Part> parts = content.parts();
            if (parts.get(1).firstBit != 16 + first.length()) {
                continue;
            }
            due.is("stored takes " + stored + ", the others " + sorts[1].length() + " and " + sorts[2].length(),
                parts.get(1).sort == 0 ? 1 : 0, stored <= best ? 1 : 0);
            (sorts[1].length() <= sorts[2].length() ? reachedFixed : reachedMade).add(best - stored);
            if (best == stored) {
                leftBits.add(-(parts.get(1).firstBit + 3) & 7);
            }
        }
        due.is("differences of fixed that were reached", reachedFixed.toString(), "[-1, 0, 1]");
        due.is("differences of made that were reached", reachedMade.toString(), "[-1, 0, 1]");
        due.holds("ties with some bits left were reached: " + leftBits, leftBits.size() >= 3);
    }

    /** A first part that packs well and ends at any bit, a second one that hardly does. */
    private static Content nearTie(Random random, boolean few) {
        byte[] first = new byte[1 + random.nextInt(40)];
        random.nextBytes(first);
        byte[] second = new byte[few ? 4 + random.nextInt(60) : 400 + random.nextInt(200)];
        // so many that made codes take about eight bits, and most of them above 143, where fixed take nine
        int letters = 155 + second.length / 20 + random.nextInt(16) - 15;
        int high = random.nextInt(112);
        for (int i = 0; i < second.length; i++) {
            int any = random.nextInt(256);
            second[i] = (byte) (few ? random.nextInt(100) < high ? any | 192 : any : 80 + random.nextInt(letters));
        }
        // bytes that come again, some of them by lengths and distances with bits behind them
        for (int again = random.nextInt(3); again > 0 && few && second.length > 30; again--) {
            int n = Math.min(first.length, 3 + random.nextInt(20));
            System.arraycopy(first, 0, second, random.nextInt(second.length - n), n);
        }
        return new Content().fill(0, 0, 4096 - first.length).bytes(first).bytes(second);
    }

    private void fixedIfNoMore() {
        due.by("otherwise fixed, if that takes no more than made, otherwise made.");
        TreeSet<Integer> reached = new TreeSet<>();
        Random random = new Random(22);
        for (int round = 0; round < 8000; round++) {
            byte[] row = new byte[20 + random.nextInt(120)];
            int letters = 2 + random.nextInt(30);
            for (int i = 0; i < row.length; i++) {
                row[i] = (byte) (random.nextInt(letters) + 100);
            }
            Bits[] sorts = Model.sorts(16, row, 0, row.length);
            int difference = sorts[2].length() - sorts[1].length();
            int bytes = 6 + (Math.min(sorts[1].length(), sorts[2].length()) + 7) / 8;
            if (Math.abs(difference) > 1 || bytes >= row.length) {
                continue;
            }
            Part part = new Content().bytes(row).parts().get(0);
            due.is("made takes " + difference + " more than fixed: the sort", part.sort, difference >= 0 ? 1 : 2);
            reached.add(difference);
        }
        due.is("differences that were reached", reached.toString(), "[-1, 0, 1]");
    }
}
