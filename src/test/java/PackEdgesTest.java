import java.util.Arrays;
import java.util.stream.IntStream;

/** Terms, 2 PACKING, and promise 5, sentence by sentence; each at its edges. PackTest has the whole of it. */
public final class PackEdgesTest {
    private static final Checks C = new Checks("PackEdgesTest");

    public static void main(String[] args) {
        runsAtMost();
        runsShortened();
        runsWhole();
        noInput();
        turns();
        origin();
        front();
        digits();
        theLast();
        tables();
        firstCosts();
        fifties();
        likeCosts();
        fourTimes();
        oneAtLeast();
        likeWeights();
        codes();
        pack();
        C.finish();
    }

    private static SortPacks packed(int level, int... input) {
        SortPacks x = Checks.fed(level, input);
        x.pack();
        return x;
    }

    private static void duePacked(String name, int level, int... input) {
        SortPacks x = packed(level, input);
        int[] due = new PlainPacker(input, level).row.bytes();
        C.due(name + ": bytes", x.count(1), due.length);
        C.dueBytes(name, Checks.outFrom(x, 0), Checks.part(due, 0));
    }

    private static void runsAtMost() {
        C.holds("Terms 2", "RUNS: as many like bytes as there are from a place on, 255 at most");
        int[][] sizes = {{254, 5}, {255, 5}, {256, 6}, {257, 7}, {258, 8}, {259, 10}, {510, 10}, {511, 11}, {1275, 25},
            {1276, 26}, {1500, 30}};
        for (int[] size : sizes) {
            for (int octet : new int[] {0, 97, 255}) {
                SortPacks x = packed(1, Checks.times(octet, size[0]));
                C.due(size[0] + " bytes " + octet + ", shortened", x.block(0, 2), size[1]);
                C.due(size[0] + " bytes " + octet, x.block(0, 1), size[0]);
            }
            duePacked(size[0] + " bytes", 1, Checks.times(97, size[0]));
        }
        // A run ends where another byte comes, though the first comes back behind it.
        SortPacks x = packed(1, Checks.join(Checks.times(5, 3), new int[] {6}, Checks.times(5, 3)));
        C.due("3, 1 and 3", x.block(0, 2), 7);
    }

    private static void runsShortened() {
        C.holds("Terms 2", "up to three as they are; four and more: four, and how many more (0 .. 251).");
        for (int run = 1; run <= 3; run++) {
            SortPacks x = packed(1, Checks.times(97, run));
            C.due("a run of " + run, x.block(0, 2), run);
            C.due("a run of " + run + ": SIGNS", x.block(0, 4), 1);
        }
        for (int run = 4; run <= 255; run++) {
            // The byte is the number itself, so that there is one SIGN if the number is right.
            SortPacks x = packed(1, Checks.times(run - 4, run));
            C.due("a run of " + run, x.block(0, 2), 5);
            C.due("a run of " + run + " bytes " + (run - 4) + ": SIGNS", x.block(0, 4), 1);
            SortPacks y = packed(1, Checks.times((run - 3) % 256, run));
            C.due("a run of " + run + " other bytes: SIGNS", y.block(0, 4), 2);
        }
    }

    /** Bytes without a run, and without a 9. */
    private static int[] unlike(int size) {
        int[] bytes = new int[size];
        for (int k = 0; k < size; k++) {
            bytes[k] = 20 + k % 3;
        }
        return bytes;
    }

    private static void runsWhole() {
        C.holds("Terms 2", "A RUN comes whole to the BLOCK that is being filled, if that has no more than ROOM then; "
            + "else to a new one.");
        int[][] runs = {{1, 1}, {2, 2}, {3, 3}, {4, 5}, {5, 5}, {100, 5}, {255, 5}};
        for (int level : new int[] {1, 2, 7}) {
            int room = 200 * level;
            for (int before = room - 6; before <= room; before++) {
                for (int[] run : runs) {
                    if (before + run[0] <= 1500) {
                        runAtEdge(level, before, run[0], run[1]);
                    }
                }
            }
        }
        // 300 like bytes are two RUNS: the second one goes to a new BLOCK alone.
        SortPacks x = packed(1, Checks.join(unlike(195), Checks.times(9, 300)));
        C.due("255 and 45: BLOCK 0", x.block(0, 1), 195 + 255);
        C.due("255 and 45: BLOCK 1", x.block(1, 1), 45);
        C.due("255 and 45: BLOCK 1 shortened", x.block(1, 2), 5);
        // What is behind a RUN that had no place does not go back to the BLOCK before.
        SortPacks y = packed(1, Checks.join(unlike(198), Checks.times(9, 3), new int[] {1, 2}));
        C.due("198, 3, 2: BLOCK 0", y.block(0, 2), 198);
        C.due("198, 3, 2: BLOCK 1", y.block(1, 2), 5);
        C.due("198, 3, 2: BLOCKS", y.block(-1, 0), 2);
    }

    private static void runAtEdge(int level, int before, int run, int takes) {
        String name = "LEVEL " + level + ", " + before + " and a run of " + run + ": ";
        SortPacks x = packed(level, Checks.join(unlike(before), Checks.times(9, run)));
        boolean fits = before + takes <= 200 * level;
        C.due(name + "BLOCKS", x.block(-1, 0), fits ? 1 : 2);
        C.due(name + "BLOCK 0 shortened", x.block(0, 2), fits ? before + takes : before);
        C.due(name + "BLOCK 0", x.block(0, 1), fits ? before + run : before);
        C.due(name + "BLOCK 1 shortened", x.block(1, 2), fits ? SortPacks.BAD : takes);
        C.due(name + "BLOCK 1", x.block(1, 1), fits ? SortPacks.BAD : run);
    }

    private static void noInput() {
        C.holds("Terms 2", "(No input: no BLOCK.)");
        SortPacks x = new SortPacks(3);
        x.octets(1, 9);
        x.pack();
        C.due("no input", x.pack(), 14);
        C.dueBytes("no input", Checks.outFrom(x, 0), Checks.hex("425a683317724538509000000000"));
        C.due("no BLOCK", x.block(-1, 0), 0);
        C.due("no BLOCK", x.block(0, 0), SortPacks.BAD);
        C.due("no SUM", x.sum(0), 0);
        C.due("no CHOICE", x.choice(0), SortPacks.BAD);
        C.due("no LENGTH", x.length(0, 0), SortPacks.BAD);
    }

    private static void turns() {
        C.holds("Terms 2", "Of the n bytes of a BLOCK all n turns (from place 0, 1 .. on, round) are sorted "
            + "(bytes without sign; like ones by place)");
        // Round: bab is abb, bab, bba; as ends alone it would be ab, b, bab.
        C.due("bab", packed(1, 98, 97, 98).block(0, 3), 1);
        C.due("aba", packed(1, 97, 98, 97).block(0, 3), 1);
        // Without sign: 255 is above 0, 128 above 127.
        C.due("255 0", packed(1, 255, 0).block(0, 3), 1);
        C.due("0 255", packed(1, 0, 255).block(0, 3), 0);
        C.due("128 127", packed(1, 128, 127).block(0, 3), 1);
        C.due("127 128", packed(1, 127, 128).block(0, 3), 0);
        // Like ones by place: of abab the turns from 0 and 2, of baba those behind the other two.
        C.due("abab", packed(1, 97, 98, 97, 98).block(0, 3), 0);
        C.due("baba", packed(1, 98, 97, 98, 97).block(0, 3), 2);
        C.due("cabcab", packed(1, 99, 97, 98, 99, 97, 98).block(0, 3), 4);
        C.due("a", packed(1, 97).block(0, 3), 0);
        C.due("aaa", packed(1, 97, 97, 97).block(0, 3), 0);
        int[] alike = new int[1500];
        for (int k = 0; k < alike.length; k++) {
            alike[k] = k % 2 == 0 ? 2 : 1;
        }
        C.due("750 times the same", packed(9, alike).block(0, 3), 750);
        duePacked("750 times the same", 9, alike);
        for (int size = 1; size <= 40; size++) {
            duePacked("two kinds of " + size, 1, Checks.mixed(size, size, 2));
            duePacked("high ones of " + size, 1, Arrays.stream(Checks.mixed(size, size, 4)).map(b -> 64 * b).toArray());
        }
    }

    private static void origin() {
        C.holds("Terms 2", "the ORIGIN is the place of the turn from 0 in that order.");
        int[] falling = new int[200];
        int[] rising = new int[200];
        for (int k = 0; k < 200; k++) {
            falling[k] = 199 - k;
            rising[k] = k;
        }
        C.due("the first of 200", packed(1, rising).block(0, 3), 0);
        C.due("the last of 200", packed(1, falling).block(0, 3), 199);
        for (int turned : new int[] {1, 100, 198}) {
            int[] bytes = Checks.join(Arrays.copyOfRange(rising, turned, 200), Arrays.copyOf(rising, turned));
            C.due("turned by " + turned, packed(1, bytes).block(0, 3), turned);
        }
    }

    private static void front() {
        C.holds("Terms 2", "The last bytes of the turns, in order, are moved to the front: the row of the SIGNS that are "
            + "there, rising; of each byte its place in it; it comes to the front then.");
        // ab has the last bytes b, a: places 1 and 1 of the row a, b and of b, a; numbers 2, 2 and THE LAST.
        HandBlock ab = HandBlock.ofTwo(new int[] {2, 2, 3}, 97, 98);
        C.dueBytes("ab", Checks.outFrom(packed(1, 97, 98), 0), HandBlock.rowOf(1, ab));
        // ba has them too, but begins at the other turn.
        HandBlock ba = HandBlock.ofTwo(new int[] {2, 2, 3}, 98, 97).origin(1);
        C.dueBytes("ba", Checks.outFrom(packed(1, 98, 97), 0), HandBlock.rowOf(1, ba));
        // abb has abb, bab, bba: b, b, a, so places 1, 0, 1.
        HandBlock abb = HandBlock.ofTwo(new int[] {2, 0, 2, 3}, 97, 98, 98);
        C.dueBytes("abb", Checks.outFrom(packed(1, 97, 98, 98), 0), HandBlock.rowOf(1, abb));
        int[] all = IntStream.range(0, 256).toArray();
        // Of 0 .. 255 the last bytes are 255, 0, 1 ..: all but the first two from the highest place there is.
        SortPacks x = packed(9, all);
        C.due("0 .. 255: numbers", x.block(0, 8), 257);
        duePacked("0 .. 255", 9, all);
    }

    private static void digits() {
        C.holds("Terms 2", "Places 0, k of them one behind the other (k as far as they go), become the number k in digits "
            + "1 and 2 (k = d0 + 2 d1 + 4 d2 ..), the lowest first: digit 1: A (0), 2: B (1).");
        // k like bytes: RUNS of 255 bytes 251 are five bytes 251 each.
        for (int runs = 0; runs <= 5; runs++) {
            for (int more = runs == 0 ? 1 : 0; more <= 3; more++) {
                int k = 5 * runs + more;
                SortPacks x = packed(1, Checks.times(251, 255 * runs + more));
                C.due(k + " places 0: bytes", x.block(0, 2), k);
                C.due(k + " places 0: digits and THE LAST", x.block(0, 8), 32 - Integer.numberOfLeadingZeros(k + 1));
                duePacked(k + " places 0", 1, Checks.times(251, 255 * runs + more));
            }
        }
        int[][] known = {{0, 2}, {1, 2}, {0, 0, 2}};
        for (int k = 1; k <= 3; k++) {
            HandBlock made = HandBlock.ofSign(7, known[k - 1], Checks.times(7, k));
            SortPacks x = packed(1, Checks.times(7, k));
            made.places = new int[] {x.choice(0)};
            made.lengths = new int[][] {told(x, 0, 3), told(x, 1, 3)};
            C.dueBytes(k + " times 7", Checks.outFrom(x, 0), HandBlock.rowOf(1, made));
        }
        // Behind another place, and up to THE LAST.
        int[] ends = Checks.join(new int[] {1}, new int[] {2, 3, 2, 3, 2, 3, 2, 3, 2, 3, 2, 3}, new int[] {1});
        duePacked("places 0 up to THE LAST", 1, ends);
    }

    private static int[] told(SortPacks x, int table, int alphabet) {
        int[] lengths = new int[alphabet];
        for (int v = 0; v < alphabet; v++) {
            lengths[v] = x.length(table, v);
        }
        return lengths;
    }

    private static void theLast() {
        C.holds("Terms 2", "A place p above 0 becomes p + 1. Behind all THE LAST: SIGNS there and 1. "
            + "The alphabet: 0 .. that.");
        for (int signs : new int[] {1, 2, 3, 15, 16, 17, 199, 200}) {
            int[] bytes = new int[signs];
            for (int k = 0; k < signs; k++) {
                bytes[k] = 255 - k;
            }
            SortPacks x = packed(1, bytes);
            C.due(signs + " SIGNS", x.block(0, 4), signs);
            C.due(signs + " SIGNS: THE LAST is of the alphabet", x.length(0, signs + 1) > 0 ? 1 : 0, 1);
            C.due(signs + " SIGNS: none behind", x.length(0, signs + 2), SortPacks.BAD);
        }
        SortPacks x = packed(9, IntStream.range(0, 256).toArray());
        C.due("256 SIGNS", x.block(0, 4), 256);
        C.due("256 SIGNS: THE LAST is 257", x.length(0, 257) > 0 ? 1 : 0, 1);
        C.due("256 SIGNS: none behind", x.length(0, 258), SortPacks.BAD);
    }

    /** An input whose BLOCK has just so many numbers with THE LAST. */
    private static int[] withNumbers(int m) {
        for (int size = m - 1; size <= 1500; size++) {
            int[] input = Checks.mixed(77, size, 256);
            if (packed(9, input).block(0, 8) == m) {
                return input;
            }
        }
        C.due("an input of " + m + " numbers is found", 0, 1);
        return new int[0];
    }

    private static void tables() {
        C.holds("Terms 2", "TABLES: of m such numbers (THE LAST, too): below 200: 2; below 600: 3; below 1,200: 4; else 5.");
        int[][] due = {{2, 2}, {3, 2}, {198, 2}, {199, 2}, {200, 3}, {201, 3}, {598, 3}, {599, 3}, {600, 4}, {601, 4},
            {1198, 4}, {1199, 4}, {1200, 5}, {1201, 5}, {1400, 5}};
        for (int[] d : due) {
            int[] input = withNumbers(d[0]);
            SortPacks x = packed(9, input);
            C.due(d[0] + " numbers", x.block(0, 8), d[0]);
            C.due(d[0] + " numbers: TABLES", x.block(0, 5), d[1]);
            C.due(d[0] + " numbers: the last TABLE", x.length(d[1] - 1, 0) > 0 ? 1 : 0, 1);
            C.due(d[0] + " numbers: none behind", x.length(d[1], 0), SortPacks.BAD);
            duePacked(d[0] + " numbers", 9, input);
        }
    }

    private static void firstCosts() {
        C.holds("Terms 2", "numbers, rising, are taken as long as their COUNTS together are below WANTED, and there are "
            + "some; if more than one was taken, t is neither the last nor 0, and the last TABLE less t is odd: the last "
            + "one taken is given back");
        // Three, four and five TABLES; one number that takes more than its part, and many that take little.
        for (int size : new int[] {210, 320, 610, 900, 1210, 1500}) {
            for (int kinds : new int[] {2, 3, 5, 9, 30, 100, 256}) {
                duePacked(size + " of " + kinds + " kinds", 9, Checks.mixed(size + kinds, size, kinds));
                choicesAsDue(size + " of " + kinds + " kinds", Checks.mixed(kinds, size, kinds));
            }
        }
    }

    private static void choicesAsDue(String name, int[] input) {
        SortPacks x = packed(9, input);
        PlainPacker due = new PlainPacker(input, 9);
        for (int k = 0; k < due.choices.length; k++) {
            C.due(name + ": choice(" + k + ")", x.choice(k), due.choices[k]);
        }
    }

    private static void fifties() {
        C.holds("Terms 2", "for each 50 numbers (the last ones may be fewer) the CHOICE is the TABLE with the least sum of "
            + "COSTS");
        int[][] due = {{2, 1}, {49, 1}, {50, 1}, {51, 2}, {99, 2}, {100, 2}, {101, 3}, {150, 3}, {151, 4}, {1250, 25},
            {1251, 26}};
        for (int[] d : due) {
            int[] input = withNumbers(d[0]);
            SortPacks x = packed(9, input);
            C.due(d[0] + " numbers: CHOICES", x.block(0, 6), d[1]);
            C.due(d[0] + " numbers: the last CHOICE", x.choice(d[1] - 1) >= 0 ? 1 : 0, 1);
            C.due(d[0] + " numbers: none behind", x.choice(d[1]), SortPacks.BAD);
            duePacked(d[0] + " numbers", 9, input);
        }
    }

    private static void likeCosts() {
        C.holds("Terms 2", "(of like ones the lower)");
        // The numbers 2, 2, 3 of ab: at first TABLE 1 (15 against 30), then LENGTHS are 2 in both.
        C.due("ab", packed(1, 97, 98).choice(0), 0);
        // The numbers 0, 2 of one byte: at first 15 in both, 0 being without COST in TABLE 1 and 2 in TABLE 0.
        C.due("a", packed(1, 97).choice(0), 0);
        choicesAsDue("ab", new int[] {97, 98});
        choicesAsDue("a", new int[] {97});
        choicesAsDue("rising", IntStream.range(0, 256).toArray());
    }

    private static void fourTimes() {
        C.holds("Terms 2", "Then, four times");
        int[] others = new int[6];
        for (int seed = 0; seed < 40; seed++) {
            int[] input = Checks.mixed(seed, 1500, 2 + seed % 10);
            duePacked("seed " + seed, 9, input);
            choicesAsDue("seed " + seed, input);
            int[] due = new PlainPacker(input, 9).row.bytes();
            for (int rounds = 3; rounds <= 5; rounds += 2) {
                others[rounds] += Arrays.equals(due, new PlainPacker(input, 9, rounds).row.bytes()) ? 0 : 1;
            }
        }
        C.due("inputs that three times would pack otherwise were among them", others[3] > 0 ? 1 : 0, 1);
        C.due("inputs that five times would pack otherwise were among them", others[5] > 0 ? 1 : 0, 1);
    }

    private static void oneAtLeast() {
        C.holds("Terms 2", "LENGTHS: weights: how often, 1 at least.");
        // By hand: of one byte the numbers A and THE LAST; B never comes, and TABLE 1 is never chosen.
        SortPacks x = packed(1, 97);
        int[] due = {2, 2, 1};
        for (int v = 0; v < 3; v++) {
            C.due("length(0, " + v + ")", x.length(0, v), due[v]);
            C.due("length(1, " + v + ")", x.length(1, v), due[v]);
        }
        // The numbers 2, 2, 3 of ab: weights 1, 1, 2, 1; with 0, 0, 2, 1 the LENGTHS would be 3, 3, 1, 2.
        for (int table = 0; table < 2; table++) {
            C.dueBytes("ab, TABLE " + table, told(packed(1, 97, 98), table, 4), new int[] {2, 2, 2, 2});
        }
        SortPacks y = packed(9, Checks.mixed(9, 1500, 256));
        for (int v = 0; v < 258; v++) {
            int length = y.length(4, v);
            C.due("length(4, " + v + ") is one", length >= 1 && length <= 17 ? 1 : 0, 1);
        }
    }

    private static void likeWeights() {
        C.holds("Terms 2", "The two least (of like ones those that came first: numbers of the alphabet, then joined ones "
            + "as they were made) are joined, till one is left; the LENGTH is how often a number was joined.");
        // Weights 1, 1, 2, 1 of ab: behind 0 and 1 come 3 and 2, which was there before the joined one of weight 2.
        for (int table = 0; table < 2; table++) {
            C.dueBytes("ab, TABLE " + table, told(packed(1, 97, 98), table, 4), new int[] {2, 2, 2, 2});
        }
        // A TABLE that is never chosen has weights 1 alone; so many are joined by hand.
        int[][] due = {{2, 2, 1}, {2, 2, 2, 2}, {3, 3, 2, 2, 2}, {3, 3, 3, 3, 2, 2}, {3, 3, 3, 3, 3, 3, 2}};
        for (int[] lengths : due) {
            int[] often = new int[lengths.length];
            C.dueBytes(often.length + " like ones by the second packer", PlainPacker.lengths(often), lengths);
            int[] bytes = new int[lengths.length - 2];
            for (int k = 0; k < bytes.length; k++) {
                bytes[k] = k;
            }
            SortPacks x = packed(1, bytes);
            int unused = 1 - x.choice(0);
            C.dueBytes(often.length + " like ones", told(x, unused, often.length), lengths);
        }
    }

    private static void codes() {
        C.holds("Terms 2", "CODES: of the LENGTHS n = 1, 2 .. 20: FIRST of 1 is 0, of n + 1 twice (FIRST of n and how many "
            + "have n); those with LENGTH n have FIRST, and one more each, in n bits, by rising numbers.");
        // One byte: THE LAST has 0, A 10, B 11.
        SortPacks x = packed(1, 97);
        String bits = new BitRow().putBytes(Checks.outFrom(x, 0)).text();
        C.due("A and THE LAST", bits.contains("00010" + "0" + "0" + "110" + "00010" + "0" + "0" + "110" + "10" + "0"
            + new BitRow().put(48, BitRow.END_MARK).text()) ? 1 : 0, 1);
        for (int kinds = 1; kinds <= 40; kinds++) {
            duePacked("300 of " + kinds + " kinds", 2, Checks.mixed(kinds, 300, kinds));
        }
    }

    private static void pack() {
        C.holds("Promise 5", "The input, which is empty then, is packed: how many bytes OUT has.");
        SortPacks x = new SortPacks(9);
        C.due("nothing", x.pack(), 14);
        C.due("nothing: OUT", x.count(1), 14);
        x.octets(1, 5);
        C.due("five bytes", x.pack(), 37);
        C.due("five bytes: OUT", x.count(1), 37);
        C.due("five bytes: the input", x.count(0), 0);
        C.due("the input is empty then", x.spoil(0, 1), SortPacks.BAD);
        C.due("nothing again", x.pack(), 14);
        C.due("nothing again: OUT", x.count(1), 14);
        C.dueNoByte(x, 14);
        Checks.feedAll(x, Checks.mixed(6, 1500, 256));
        int size = new PlainPacker(Checks.mixed(6, 1500, 256), 9).row.bytes().length;
        C.due("1500 bytes", x.pack(), size);
        C.due("1500 bytes: the input", x.count(0), 0);
        C.due("more than the input can have", x.pass(), size > 1500 ? SortPacks.FULL : size);
    }
}
