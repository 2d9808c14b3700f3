/** Promises 5, 11 and 13 to 16 for ordinary inputs that are packed, against a second packer. */
public final class PackTest {
    private static final Checks C = new Checks("PackTest");
    private static int longest;

    public static void main(String[] args) {
        for (int level : new int[] {1, 2, 9}) {
            for (int size : new int[] {0, 1, 2, 3, 4, 5, 49, 50, 51, 198, 199, 200, 201, 204, 598, 599, 600, 1500}) {
                compare("any", level, Checks.mixed(size + level, size, 256));
                compare("few", level, Checks.mixed(size, size, 3));
                compare("runs", level, Checks.runs(size, size));
                compare("turns", level, turning(size));
                compare("rare", level, rare(size));
            }
        }
        compare("fours", 9, fours(375));
        compare("fours", 1, fours(375));
        for (int more = 0; more < 8; more++) {
            int[] edge = Checks.join(turning(193), Checks.times(200, more), Checks.times(7, 3));
            compare("a run of " + more + " at the edge of ROOM", 1, edge);
        }
        for (int run = 1; run < 12; run++) {
            compare("run " + run, 1, Checks.times(0, run));
            compare("run " + (run + 250), 1, Checks.times(255, run + 250));
        }
        for (int most = 1190; most < 1210; most += 3) {
            compare("tables " + most, 9, Checks.mixed(most, most, 256));
        }
        for (int seed = 0; seed < 10; seed++) {
            compare("skewed " + seed, 9, skewed(seed));
        }
        C.due("LENGTHS above 10 were among them", longest > 10 ? 1 : 0, 1);
        known();
        C.finish();
    }

    private static int[] turning(int size) {
        int[] bytes = new int[size];
        for (int k = 0; k < size; k++) {
            bytes[k] = k % 7 % 3 * 100;
        }
        return bytes;
    }

    private static int[] rare(int size) {
        int[] bytes = Checks.mixed(size, size, 65536);
        for (int k = 0; k < size; k++) {
            bytes[k] = Integer.numberOfLeadingZeros(bytes[k] | 1);
        }
        return bytes;
    }

    /** Many signs that come once, then two of which one is rarer: makes long codes. */
    private static int[] skewed(int seed) {
        int[] bytes = Checks.mixed(seed, 1500, 3);
        for (int k = 0; k < bytes.length; k++) {
            bytes[k] = k < 160 ? k : bytes[k] / 2;
        }
        return bytes;
    }

    private static int[] fours(int groups) {
        int[] bytes = new int[4 * groups];
        for (int k = 0; k < bytes.length; k++) {
            bytes[k] = k / 4 % 256;
        }
        return bytes;
    }

    private static void compare(String kind, int level, int[] input) {
        String name = kind + " of " + input.length + " at " + level + ": ";
        PlainPacker due = new PlainPacker(input, level);
        int[] bytes = due.row.bytes();
        for (int from = 0; from <= bytes.length; from += 400) {
            SortPacks x = Checks.fed(level, input);
            C.due(name + "count(0)", x.count(0), input.length);
            C.due(name + "pack", x.pack(), bytes.length);
            C.dueBytes(name + "OUT from " + from, Checks.outFrom(x, from), Checks.part(bytes, from));
        }
        SortPacks x = Checks.fed(level, input);
        x.pack();
        C.due(name + "blocks", x.block(-1, 0), due.facts.size());
        for (int i = 0; i < due.facts.size(); i++) {
            for (int what = 0; what < 9; what++) {
                C.due(name + "block(" + i + ", " + what + ")", x.block(i, what), due.facts.get(i)[what]);
            }
            C.due(name + "sum(" + i + ")", x.sum(i), due.sums.get(i));
        }
        C.due(name + "block behind", x.block(due.facts.size(), 0), SortPacks.BAD);
        compareCoding(name, x, due);
    }

    private static void compareCoding(String name, SortPacks x, PlainPacker due) {
        for (int k = 0; k < due.choices.length; k++) {
            C.due(name + "choice(" + k + ")", x.choice(k), due.choices[k]);
        }
        C.due(name + "choice behind", x.choice(due.choices.length), SortPacks.BAD);
        int alphabet = due.lengths.length == 0 ? 0 : due.lengths[0].length;
        for (int t = 0; t < due.lengths.length; t++) {
            for (int v = t; v < alphabet; v += 5) {
                C.due(name + "length(" + t + ", " + v + ")", x.length(t, v), due.lengths[t][v]);
            }
            longest = Math.max(longest, java.util.Arrays.stream(due.lengths[t]).max().orElse(0));
            C.due(name + "length(" + t + ", behind)", x.length(t, alphabet), SortPacks.BAD);
        }
        C.due(name + "length(behind, 0)", x.length(due.lengths.length, 0), SortPacks.BAD);
    }

    /** Bytes that the document's own words give, worked out by hand for the smallest input. */
    private static void known() {
        SortPacks x = new SortPacks(9);
        C.due("nothing", x.pack(), 14);
        C.dueBytes("nothing", Checks.outFrom(x, 0), Checks.hex("425a683917724538509000000000"));
        x.octets(97, 1);
        C.due("one byte", x.pack(), 37);
        HandBlock one = HandBlock.ofSign(97, new int[] {0, 2}, 97);
        // Weights 1, 1, 1: the first two are joined, and then with the third.
        one.lengths = new int[][] {{2, 2, 1}, {2, 2, 1}};
        int[] due = one.writeTo(new BitRow().head(9)).last(one.sum).bytes();
        C.dueBytes("one byte", Checks.outFrom(x, 0), due);
        C.dueNoByte(x, 37);
        C.dueNoByte(x, -1);
        C.dueNoByte(x, Integer.MAX_VALUE);
        C.dueNoByte(x, Integer.MIN_VALUE);
    }
}
