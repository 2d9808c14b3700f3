import java.util.Arrays;
import java.util.Random;

/**
 * Terms: "Opening judges each bit." Rows that are whole, spoiled, cut or made by chance, opened by the class and by
 * PlainOpener: answers, RULES, bytes and what is told are the same (promises 6, 7, 11, 13 to 18).
 */
public final class WildTest {
    private static final Checks C = new Checks("WildTest");
    private static final int[] SEEN = new int[15];

    public static void main(String[] args) {
        C.holds("Terms", "Opening judges each bit.");
        eachBitOfPacked();
        eachBitOfHandMade();
        cutAndSpoiled();
        madeByChance();
        for (int rule = 0; rule < SEEN.length; rule++) {
            C.due("rows that broke RULE " + rule + " were among them", SEEN[rule] > 0 ? 1 : 0, 1);
        }
        C.finish();
    }

    private static void compare(String name, int[] bytes) {
        PlainOpener due = new PlainOpener(bytes);
        SortPacks x = Checks.fed(1, bytes);
        C.due(name + ": open", x.open(), due.open());
        SEEN[due.rule]++;
        C.due(name + ": rule", x.rule(), due.rule);
        compareOut(name, x, due);
        C.due(name + ": blocks", x.block(-1, 0), due.facts.size());
        for (int i = 0; i < due.facts.size() && i < 3; i++) {
            for (int what = 0; what < 9; what++) {
                C.due(name + ": block(" + i + ", " + what + ")", x.block(i, what), due.facts.get(i)[what]);
            }
            C.due(name + ": sum(" + i + ")", x.sum(i), due.sums.get(i));
        }
        compareCoding(name, x, due);
        for (int i = 0; i < due.marks.size() && i < 3; i++) {
            String alone = name + ": alone(" + i + ")";
            C.due(alone + ": mark", x.mark(i), due.marks.get(i));
            C.due(alone, x.alone(i), due.alone(i));
            C.due(alone + ": rule", x.rule(), due.rule);
            compareOut(alone, x, due);
            compareCoding(alone, x, due);
        }
        C.due(name + ": no more marks", x.mark(due.marks.size()), SortPacks.BAD);
    }

    /** Some bytes from one end or the other, for an object has 512 calls. */
    private static void compareOut(String name, SortPacks x, PlainOpener due) {
        C.due(name + ": OUT", x.count(1), due.out.size());
        int[] bytes = due.outBytes();
        int step = 1 + bytes.length / 50;
        for (int i = 0; i < bytes.length; i += step) {
            C.due(name + ": out(" + i + ")", x.out(i), bytes[i]);
        }
    }

    private static void compareCoding(String name, SortPacks x, PlainOpener due) {
        int choices = due.choices.length;
        int tables = due.lengths.length;
        C.due(name + ": choice behind", x.choice(choices), SortPacks.BAD);
        C.due(name + ": length behind", x.length(tables, 0), SortPacks.BAD);
        if (choices > 0) {
            C.due(name + ": choice", x.choice(choices - 1), due.choices[choices - 1]);
            C.due(name + ": choice", x.choice(choices / 2), due.choices[choices / 2]);
        }
        for (int t = 0; t < tables; t++) {
            int last = due.lengths[t].length - 1;
            C.due(name + ": length", x.length(t, last), due.lengths[t][last]);
            C.due(name + ": length", x.length(t, last / 2), due.lengths[t][last / 2]);
            C.due(name + ": length behind", x.length(t, last + 1), SortPacks.BAD);
        }
    }

    private static void eachBitOfPacked() {
        int[] two = Checks.join(new PlainPacker(Checks.runs(1, 30), 1).row.bytes(),
            new PlainPacker(Checks.mixed(1, 12, 3), 2).row.bytes());
        eachBit("two packed rows", two);
        eachBit("like bytes", new PlainPacker(Checks.times(7, 600), 1).row.bytes());
    }

    private static void eachBitOfHandMade() {
        HandBlock made = HandBlock.ofTwo(new int[] {2, 0, 2, 0, 3}, 97, 98, 97, 98);
        made.tables = 6;
        made.places = new int[] {5, 0, 3};
        made.lengths = new int[][] {{1, 2, 3, 3}, {20, 1, 20, 1}, {5, 5, 5, 5}, {2, 2, 2, 2}, {3, 1, 3, 2}, {3, 2, 3, 1}};
        eachBit("hand made", made.writeTo(new BitRow().head(1)).last(made.sum).bytes());
    }

    private static void eachBit(String name, int[] bytes) {
        compare(name, bytes);
        for (int bit = 0; bit < 8 * bytes.length; bit++) {
            int[] spoiled = bytes.clone();
            spoiled[bit / 8] ^= 128 >> bit % 8;
            compare(name + ", bit " + bit + " turned", spoiled);
        }
    }

    private static void cutAndSpoiled() {
        Random random = new Random(14);
        for (int k = 0; k < 600; k++) {
            int level = 1 + random.nextInt(9);
            int[] input = random.nextBoolean() ? Checks.runs(k, random.nextInt(1000))
                : Checks.mixed(k, random.nextInt(500), 1 + random.nextInt(60));
            int[] row = new PlainPacker(input, level).row.bytes();
            for (int times = random.nextInt(4); times > 0; times--) {
                row[random.nextInt(row.length)] ^= 1 << random.nextInt(8);
            }
            int[] cut = Arrays.copyOf(row, random.nextInt(4) == 0 ? random.nextInt(row.length + 1) : row.length);
            compare("spoiled " + k, Arrays.copyOf(cut, Math.min(1500, cut.length + random.nextInt(2))));
        }
    }

    private static void madeByChance() {
        Random random = new Random(41);
        for (int k = 0; k < 3000; k++) {
            BitRow row = new BitRow().head(1 + random.nextInt(3));
            int joined = 0;
            for (int blocks = random.nextInt(4); blocks >= 0; blocks--) {
                HandBlock made = chanceBlock(random);
                made.writeTo(row);
                joined = Integer.rotateLeft(joined, 1) ^ made.sum;
            }
            row.last(random.nextInt(9) == 0 ? joined ^ 1 : joined);
            int[] bytes = row.bytes();
            if (random.nextInt(9) == 0) {
                bytes[bytes.length - 1] |= random.nextInt(2);
            }
            compare("by chance " + k, Arrays.copyOf(bytes, Math.min(1500, bytes.length)));
        }
    }

    /** A BLOCK that no packing makes; most of them have the SUM that they ought to have. */
    private static HandBlock chanceBlock(Random random) {
        HandBlock made = new HandBlock();
        made.signs = random.ints(1 + random.nextInt(5), 0, 256).distinct().sorted().toArray();
        made.tables = 2 + random.nextInt(5);
        int alphabet = made.signs.length + 2;
        made.lengths = new int[made.tables][];
        for (int t = 0; t < made.tables; t++) {
            int most = random.nextInt(6) == 0 ? 21 : 5;
            made.lengths[t] = random.ints(alphabet, random.nextInt(3) == 0 ? 1 : 3, most + 1).toArray();
        }
        int many = random.nextInt(4) == 0 ? 200 : 20;
        made.numbers = random.ints(random.nextInt(many) + 1, 0, alphabet - 1).toArray();
        made.numbers[made.numbers.length - 1] = alphabet - 1;
        int choices = made.numbers.length / 50 + 1 + random.nextInt(3);
        made.places = random.ints(choices, 0, made.tables).toArray();
        made.origin = random.nextInt(1 + made.numbers.length / 2);
        made.bit = random.nextInt(40) == 0 ? 1 : 0;
        PlainOpener first = new PlainOpener(made.writeTo(new BitRow()).whole().bytes());
        first.alone(0);
        return random.nextInt(20) == 0 ? made : made.sum(first.rightSum);
    }
}
