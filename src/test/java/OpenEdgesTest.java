import java.util.Arrays;

/** Terms, 3 OPENING up to its RULES, and promises 6 and 7, sentence by sentence. RulesTest has the RULES. */
public final class OpenEdgesTest {
    private static final Checks C = new Checks("OpenEdgesTest");

    public static void main(String[] args) {
        codes();
        codesWithout();
        fifties();
        turnedBack();
        runs();
        beginsAnew();
        open();
        openBroken();
        staysForAlone();
        rule();
        C.finish();
    }

    private static BitRow upToCodes(HandBlock made) {
        BitRow row = new BitRow().head(1);
        made.writeHead(row);
        made.writeMap(row);
        made.writeChoices(row);
        return made.writeLengths(row);
    }

    private static SortPacks opened(String name, BitRow row, int due) {
        SortPacks x = Checks.fed(1, row.bytes());
        C.due(name, x.open(), due);
        return x;
    }

    private static void dueOpened(String name, HandBlock made, int... due) {
        SortPacks x = Checks.fed(1, HandBlock.rowOf(1, made.sum(BitRow.sum(due))));
        C.due(name, x.open(), due.length);
        C.due(name + ": rule", x.rule(), 0);
        C.dueBytes(name, Checks.outFrom(x, 0), Checks.part(due, 0));
    }

    private static void codes() {
        C.holds("Terms 3", "OPENING reads codes bit by bit: with n bits that make v: if v is at least FIRST of n, and below "
            + "it and how many have n: that one");
        int[][] tables = {{1, 2, 2}, {2, 1, 2}, {2, 2, 1}, {2, 2, 2}, {20, 20, 20}, {1, 20, 20}, {20, 1, 2}, {3, 20, 19}};
        for (int[] table : tables) {
            HandBlock made = HandBlock.ofSign(97, new int[] {1, 2});
            made.lengths = new int[][] {table, {1, 1, 1}};
            dueOpened("LENGTHS " + Arrays.toString(table), made, 97, 97);
        }
        // A and THE LAST have 0 and 1; FIRST of 2 is 4 then, and no two bits are ever asked.
        HandBlock two = HandBlock.ofTwo(null, 97);
        two.lengths = new int[][] {{1, 2, 2, 1}, {1, 1, 1, 1}};
        opened("LENGTHS 1, 2, 2, 1", upToCodes(two).put("01").last(two.sum), 1);
        // Of four with one bit two have no code.
        two.lengths = new int[][] {{1, 1, 1, 1}, {1, 1, 1, 1}};
        BitRow row = upToCodes(two).put("0".repeat(8));
        C.due("LENGTHS 1, 1, 1, 1: rule", opened("LENGTHS 1, 1, 1, 1", row, -10 - (row.size() + 7) / 8).rule(), 8);
    }

    private static void codesWithout() {
        C.holds("Terms 3", "20 bits without: RULE 8.");
        for (int more = 0; more < 8; more++) {
            HandBlock made = HandBlock.oneByte().choices(1 + more);
            made.lengths = new int[][] {{20, 20, 20}, {1, 1, 1}};
            for (int bits = 17; bits <= 20; bits++) {
                // What ends just behind so many bits: only the twentieth shows that there is no code.
                BitRow row = upToCodes(made).put("1".repeat(bits));
                if (row.size() % 8 == 0) {
                    String name = bits + " bits";
                    C.due(name + ": rule", opened(name, row, -10 - row.size() / 8).rule(), bits < 20 ? 1 : 8);
                }
            }
            BitRow row = upToCodes(made).put("0".repeat(18) + "11");
            int read = (row.size() + 7) / 8;
            C.due("the first behind three of 20 bits: rule",
                opened("the first behind three of 20 bits", row.put(100, 0), -10 - read).rule(), 8);
            row = upToCodes(made).put("0".repeat(18) + "00" + "0".repeat(18) + "10").last(made.sum);
            opened("the first and the third of 20 bits", row, 1);
        }
    }

    private static void fifties() {
        C.holds("Terms 3", "The codes of each fifty by the TABLE that was chosen.");
        for (int bytes : new int[] {1, 48, 49, 50, 51, 98, 99, 100, 101, 149, 150, 198}) {
            HandBlock made = HandBlock.ofTwo(Checks.times(2, bytes + 1));
            made.numbers[bytes] = 3;
            made.tables = 4;
            made.lengths = new int[][] {{1, 2, 3, 3}, {3, 3, 2, 1}, {4, 1, 4, 2}, {2, 2, 2, 2}};
            made.places = new int[] {2, 2, 0, 3};
            PlainOpener due = new PlainOpener(HandBlock.rowOf(1, made));
            due.alone(0);
            due = new PlainOpener(HandBlock.rowOf(1, made.sum(due.rightSum)));
            due.open();
            String name = bytes + " places 1 and THE LAST";
            C.due(name + " by the second opener", due.rule, 0);
            dueOpened(name, made, due.outBytes());
        }
    }

    private static void turnedBack() {
        C.holds("Terms 3", "The row of last bytes (n) that comes so is turned back: C of a byte is how many are less; the row "
            + "j whose byte b is the k-th b from above (from 0 on) is NEXT of C(b) + k; from NEXT of ORIGIN on, n times: "
            + "that row's byte, then its NEXT.");
        // The last bytes of banana's turns are nnbaaa: places 2, 0, 2, 2, 0, 0.
        String[] turns = {"abanan", "anaban", "ananab", "banana", "nabana", "nanaba"};
        for (int origin = 0; origin < 6; origin++) {
            HandBlock made = new HandBlock().origin(origin);
            made.signs = new int[] {'a', 'b', 'n'};
            made.lengths = new int[][] {{3, 3, 3, 3, 3}, {1, 1, 1, 1, 1}};
            made.numbers = new int[] {3, 0, 3, 3, 1, 4};
            dueOpened("turn " + origin + " of banana", made, turns[origin].chars().toArray());
        }
        // No turns have these last bytes: each row is its own NEXT.
        dueOpened("a, b from 0", HandBlock.ofTwo(new int[] {0, 2, 3}), 97, 97);
        dueOpened("a, b from 1", HandBlock.ofTwo(new int[] {0, 2, 3}).origin(1), 98, 98);
        dueOpened("one byte", HandBlock.oneByte(), 97);
        // Bytes without sign: 200 is not less than 100.
        HandBlock high = HandBlock.ofTwo(new int[] {2, 2, 3});
        high.signs = new int[] {100, 200};
        dueOpened("100, 200", high, 100, 200);
    }

    private static void runs() {
        C.holds("Terms 3", "Then runs: behind four like bytes one that tells how many more (0 .. 255)");
        for (int more = 0; more <= 255; more++) {
            HandBlock made = HandBlock.ofSign(more, null).numbersFor(5);
            dueOpened("four and " + more, made, Checks.times(more, 4 + more));
        }
        for (int size = 1; size <= 3; size++) {
            dueOpened(size + " like bytes tell nothing", HandBlock.ofSign(9, null).numbersFor(size), Checks.times(9, size));
        }
    }

    private static void beginsAnew() {
        C.holds("Terms 3", "what is behind that begins anew.");
        for (int sign : new int[] {0, 1, 4, 30}) {
            for (int size = 5; size <= 40; size++) {
                HandBlock made = HandBlock.ofSign(sign, null).numbersFor(size);
                if (size % 5 != 4) {
                    dueOpened(size + " bytes " + sign, made, Checks.times(sign, size / 5 * (4 + sign) + size % 5));
                }
            }
        }
        // 255 like bytes, then 255 more, then 3 of them: RUNS of one byte one behind the other.
        int[] input = Checks.times(6, 255 + 255 + 3);
        SortPacks x = Checks.fed(1, new PlainPacker(input, 1).row.bytes());
        C.due("255, 255 and 3", x.open(), 513);
        C.due("255, 255 and 3 shortened", x.block(0, 2), 13);
    }

    private static void open() {
        C.holds("Promise 6", "The input, which is empty then, is opened, all rows of it: how many bytes OUT has");
        int[] one = HandBlock.rowOf(1, HandBlock.oneByte());
        SortPacks x = Checks.fed(1, Checks.join(one, one, one));
        C.due("three rows", x.open(), 3);
        C.due("three rows: OUT", x.count(1), 3);
        C.due("three rows: the input is empty then", x.count(0), 0);
        C.due("three rows: the input is empty then", x.spoil(0, 1), SortPacks.BAD);
        C.due("three rows: what it had", x.count(2), 3 * one.length);
        Checks.feedAll(x, one);
        C.due("one row", x.open(), 1);
        C.due("one row: OUT is new", x.count(1), 1);
        C.dueNoByte(x, 1);
        x.pack();
        x.pass();
        C.due("a row without a BLOCK", x.open(), 0);
        C.due("a row without a BLOCK: OUT", x.count(1), 0);
        C.dueNoByte(x, 0);
        C.due("nothing", x.open(), -10);
        C.due("nothing: OUT", x.count(1), 0);
        C.due("nothing: blocks", x.block(-1, 0), 0);
    }

    private static void openBroken() {
        C.holds("Promise 6", "- 10 less the bytes of which bits were read when a RULE was seen broken: OUT has the BLOCKS "
            + "before.");
        SortPacks x = new SortPacks(1);
        C.due("nothing was read", x.open(), -10);
        x.octets(66, 1);
        C.due("one byte was read, all there is", x.open(), -11);
        x.octets(65, 400);
        C.due("one byte was read of many", x.open(), -11);
        C.due("the input is empty then", x.count(0), 0);
        int[] input = Checks.mixed(5, 500, 50);
        PlainPacker packed = new PlainPacker(input, 1);
        C.due("three BLOCKS", packed.facts.size(), 3);
        int before = 0;
        for (int i = 0; i < 3; i++) {
            int bitOfSum = packed.facts.get(i)[0] + 48;
            int[] row = packed.row.bytes();
            row[bitOfSum / 8 + 1] ^= 1;
            SortPacks y = Checks.fed(1, row);
            int end = i < 2 ? packed.facts.get(i + 1)[0] : packed.endMark;
            C.due("SUM " + i + " spoiled", y.open(), -10 - (end + 7) / 8);
            C.due("SUM " + i + " spoiled: rule", y.rule(), 12);
            C.due("SUM " + i + " spoiled: OUT", y.count(1), before);
            C.due("SUM " + i + " spoiled: blocks", y.block(-1, 0), i);
            C.dueBytes("SUM " + i + " spoiled: OUT", Checks.outFrom(y, 0), Checks.part(Arrays.copyOf(input, before), 0));
            before += packed.facts.get(i)[1];
        }
        int[] row = packed.row.bytes();
        for (int behind : new int[] {1, 3, 14}) {
            SortPacks y = Checks.fed(1, Checks.join(row, Checks.times(66, behind)));
            C.due(behind + " bytes behind the row", y.open(), -10 - row.length - Math.min(2, behind));
            C.due(behind + " bytes behind the row: rule", y.rule(), behind == 1 ? 1 : 2);
            C.due(behind + " bytes behind the row: OUT", y.count(1), 500);
            C.due(behind + " bytes behind the row: blocks", y.block(-1, 0), 3);
        }
    }

    private static void staysForAlone() {
        C.holds("Promise 6", "(What it has stays for alone().)");
        SortPacks x = Checks.fed(1, HandBlock.rowOf(1, HandBlock.oneByte()));
        x.open();
        x.octets(7, 300);
        C.due("behind octets()", x.alone(0), 1);
        x.spoil(5, 255);
        x.drop(100);
        C.due("behind spoil() and drop()", x.alone(0), 1);
        x.pack();
        C.due("behind pack()", x.alone(0), 1);
        C.due("behind alone()", x.alone(0), 1);
        C.due("what it is", x.out(0), 97);
        C.due("how many", x.count(2), HandBlock.rowOf(1, HandBlock.oneByte()).length);
        x.octets(7, 1);
        x.open();
        C.due("another open() has another", x.alone(0), SortPacks.BAD);
        C.due("another open() has another", x.count(2), 1);
    }

    private static void rule() {
        C.holds("Promise 7", "The RULE that the last open() or alone() saw broken; 0: none, or neither was.");
        SortPacks x = new SortPacks(1);
        C.due("neither was", x.rule(), 0);
        x.octets(1, 1);
        x.pack();
        C.due("neither was, but pack()", x.rule(), 0);
        x.alone(0);
        C.due("an alone() without a BLOCK", x.rule(), 0);
        x.open();
        C.due("open() of nothing", x.rule(), 1);
        x.octets(1, 1);
        x.pack();
        C.due("pack() leaves it", x.rule(), 1);
        x.pass();
        C.due("pass() leaves it", x.rule(), 1);
        x.open();
        C.due("open() with none broken", x.rule(), 0);
        BitRow row = new BitRow().head(1);
        HandBlock.oneByte().writeTo(row);
        HandBlock.oneByte().sum(1).writeTo(row).put(40, 0);
        Checks.feedAll(x, row.bytes());
        x.open();
        C.due("open() that broke 12", x.rule(), 12);
        C.due("rule() leaves it", x.rule(), 12);
        x.alone(0);
        C.due("alone() with none broken", x.rule(), 0);
        x.alone(1);
        C.due("alone() that broke 12", x.rule(), 12);
        Checks.feedAll(x, HandBlock.rowOf(1, HandBlock.oneByte()));
        x.open();
        C.due("open() with none broken behind alone()", x.rule(), 0);
    }
}
