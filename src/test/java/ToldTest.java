import java.util.Arrays;

/** Promises 11 and 13 to 16, sentence by sentence: what is told of OUT, of BLOCKS, and of the last BLOCK's codes. */
public final class ToldTest {
    private static final Checks C = new Checks("ToldTest");
    private static final int BAD = SortPacks.BAD;
    private static final int MIN = Integer.MIN_VALUE;
    private static final int MAX = Integer.MAX_VALUE;

    public static void main(String[] args) {
        out();
        outNone();
        block();
        thoseThatWent();
        blockBad();
        sixty();
        sum();
        sumNone();
        choice();
        sinceTheLatest();
        choiceBad();
        length();
        lengthBad();
        C.finish();
    }

    /** A BLOCK of one byte that is known by how many CHOICES it has. */
    private static HandBlock with(int choices) {
        return HandBlock.oneByte().choices(choices);
    }

    private static void out() {
        C.holds("Promise 11", "Byte i of OUT.");
        int[] all = new int[256];
        for (int k = 0; k < 256; k++) {
            all[k] = 255 - k;
        }
        SortPacks x = Checks.fed(2, all);
        x.pack();
        C.due("out(0) packed", x.out(0), 66);
        C.due("out(3) packed", x.out(3), 50);
        x.pass();
        x.open();
        for (int k = 0; k < 256; k++) {
            C.due("out(" + k + ") opened", x.out(k), 255 - k);
        }
        x.alone(0);
        C.due("out(0) alone", x.out(0), 255);
        C.due("out(255) alone", x.out(255), 0);
    }

    private static void outNone() {
        C.holds("Promise 11", "ArrayIndexOutOfBoundsException: none such.");
        SortPacks x = new SortPacks(1);
        noBytes(x, 0);
        x.octets(1, 5);
        noBytes(x, 0);
        x.pack();
        noBytes(x, 37);
        C.due("the last is one", x.out(36) >= 0 ? 1 : 0, 1);
        x.pass();
        x.open();
        noBytes(x, 5);
        x.pack();
        noBytes(x, 14);
        x.alone(0);
        noBytes(x, 5);
        x.open();
        noBytes(x, 0);
    }

    private static void noBytes(SortPacks x, int size) {
        for (int i : new int[] {-1, size, size + 1, 3000, 4000, 4001, MIN, MAX, -size - 1}) {
            C.dueNoByte(x, i);
        }
    }

    private static void block() {
        C.holds("Promise 13", "0 the bit at which its MARK begins, 1 its bytes, 2 those before, with runs shortened, "
            + "3 ORIGIN, 4 SIGNS, 5 TABLES, 6 CHOICES, 7 its row (0, 1 ..), 8 numbers with THE LAST.");
        int[] input = Checks.join(Checks.times(7, 300), Checks.mixed(2, 450, 90));
        PlainPacker due = new PlainPacker(input, 1);
        C.due("BLOCKS", due.facts.size(), 3);
        SortPacks x = Checks.fed(1, input);
        x.pack();
        dueFacts("packed", x, due, 0, 0, 0);
        int[] row = due.row.bytes();
        SortPacks y = Checks.fed(1, Checks.join(HandBlock.rowOf(1), row));
        y.open();
        dueFacts("opened behind another row", y, due, 0, 14, 1);
        SortPacks z = Checks.fed(1, Checks.join(HandBlock.rowOf(1, with(1), with(2)), row));
        z.open();
        dueFacts("opened behind two BLOCKS", z, due, 2, HandBlock.rowOf(1, with(1), with(2)).length, 1);
        C.due("the first BLOCK: bit", z.block(0, 0), 32);
        C.due("the second BLOCK: CHOICES", z.block(1, 6), 2);
        C.due("the second BLOCK: row", z.block(1, 7), 0);
        // By hand: 300 times 7 are 255 and 45: 7 7 7 7 251 7 7 7 7 41. What is packed is row 0, whatever was opened.
        SortPacks w = Checks.fed(1, Checks.join(HandBlock.rowOf(1), HandBlock.rowOf(1, with(1))));
        w.open();
        C.due("a second row", w.block(0, 7), 1);
        w.octets(7, 300);
        w.pack();
        int[] hand = {32, 300, 10, 1, 3, 2, 1, 0};
        for (int what = 0; what < 8; what++) {
            C.due("300 times 7: block(0, " + what + ")", w.block(0, what), hand[what]);
        }
    }

    private static void dueFacts(String name, SortPacks x, PlainPacker due, int before, int bytes, int row) {
        C.due(name + ": how many", x.block(-1, 0), before + due.facts.size());
        for (int i = 0; i < due.facts.size(); i++) {
            for (int what = 0; what < 9; what++) {
                int more = what == 0 ? 8 * bytes : what == 7 ? row : 0;
                C.due(name + ": block(" + (before + i) + ", " + what + ")", x.block(before + i, what),
                    due.facts.get(i)[what] + more);
            }
        }
    }

    private static void thoseThatWent() {
        C.holds("Promise 13", "Of BLOCK i of the last pack() or open() (those that went; i = - 1, what 0: how many)");
        HandBlock wrong = with(9).sum(1);
        for (int good = 0; good <= 3; good++) {
            BitRow row = new BitRow().head(1);
            for (int k = 0; k < good; k++) {
                with(1 + k).writeTo(row);
            }
            SortPacks x = Checks.fed(1, wrong.writeTo(row).put(40, 0).bytes());
            x.open();
            C.due(good + " and a wrong one: rule", x.rule(), 12);
            C.due(good + " and a wrong one: how many", x.block(-1, 0), good);
            for (int what = 0; what < 9; what++) {
                C.due(good + " and a wrong one: none such", x.block(good, what), BAD);
            }
            C.due(good + " and a wrong one: the last", x.block(good - 1, 6), good == 0 ? BAD : good);
        }
        SortPacks x = Checks.fed(1, Checks.mixed(1, 450, 256));
        x.pack();
        C.due("packed", x.block(-1, 0), 3);
        Checks.feedAll(x, HandBlock.rowOf(1, with(4)));
        C.due("the input is none of it", x.block(-1, 0), 3);
        x.open();
        C.due("opened", x.block(-1, 0), 1);
        C.due("opened", x.block(0, 6), 4);
        C.due("those packed before are gone", x.block(1, 0), BAD);
        x.octets(1, 1);
        x.pack();
        C.due("packed behind it", x.block(0, 6), 1);
        x.open();
        C.due("nothing opened", x.block(-1, 0), 0);
        C.due("nothing opened", x.block(0, 0), BAD);
        x.octets(1, 1);
        x.pack();
        x.pack();
        C.due("nothing packed", x.block(-1, 0), 0);
        // THE JOINED SUM is behind the BLOCKS: they went.
        BitRow row = with(1).writeTo(with(2).writeTo(new BitRow().head(1))).last(0);
        Checks.feedAll(x, row.bytes());
        x.open();
        C.due("a wrong JOINED SUM: rule", x.rule(), 13);
        C.due("a wrong JOINED SUM: how many", x.block(-1, 0), 2);
    }

    private static void blockBad() {
        C.holds("Promise 13", "BAD: none such.");
        SortPacks x = new SortPacks(1);
        C.due("new: how many", x.block(-1, 0), 0);
        noFacts("new", x, 0);
        x.octets(1, 9);
        x.pack();
        noFacts("packed", x, 1);
        x.pass();
        x.pass();
        x.open();
        noFacts("opened", x, 2);
    }

    private static void noFacts(String name, SortPacks x, int blocks) {
        for (int what = -1; what <= 9; what++) {
            for (int i : new int[] {-2, blocks, blocks + 1, 59, 60, 61, MIN, MAX}) {
                C.due(name + ": block(" + i + ", " + what + ")", x.block(i, what), BAD);
            }
        }
        for (int what : new int[] {-1, 9, 10, MIN, MAX}) {
            C.due(name + ": block(0, " + what + ")", x.block(0, what), BAD);
        }
        for (int what : new int[] {-1, 1, 2, 3, 4, 5, 6, 7, 8, 9, MIN, MAX}) {
            C.due(name + ": block(-1, " + what + ")", x.block(-1, what), BAD);
        }
    }

    private static void sixty() {
        C.holds("Promise 13", "(60 at most are told.)");
        for (int blocks : new int[] {1, 59, 60, 61, 64, 66}) {
            String name = blocks + " blocks";
            SortPacks x = Checks.fed(1, HandBlock.rowOf(1, many(blocks)));
            C.due(name, x.open(), blocks);
            toldOf(name, x, blocks);
            C.due(name + ": the last alone", x.alone(blocks - 1), 1);
            toldOf(name + ", one alone", x, blocks);
            C.due(name + ": none behind the last", x.alone(blocks), BAD);
            x.octets(5, 1);
            x.pack();
            C.due(name + ", then one packed", x.block(-1, 0), 1);
            C.due(name + ", then one packed: block(1, 1)", x.block(1, 1), BAD);
        }
        sixtyAndARule();
        sixtyOfTwoRows();
    }

    private static HandBlock[] many(int blocks) {
        HandBlock[] all = new HandBlock[blocks];
        Arrays.fill(all, HandBlock.oneByte());
        return all;
    }

    private static void sixtyAndARule() {
        for (int blocks : new int[] {59, 60, 61, 65}) {
            BitRow row = new BitRow().head(1);
            for (HandBlock block : many(blocks)) {
                block.writeTo(row);
            }
            HandBlock.oneByte().sum(1).writeTo(row);
            SortPacks x = Checks.fed(1, row.bytes());
            String name = blocks + " blocks and a wrong SUM";
            C.due(name, x.open(), -10 - (row.size() + 7) / 8);
            C.due(name + ": rule", x.rule(), 12);
            C.due(name + ": OUT", x.count(1), blocks);
            toldOf(name, x, blocks);
        }
    }

    private static void sixtyOfTwoRows() {
        SortPacks x = Checks.fed(1, Checks.join(HandBlock.rowOf(1, many(59)), HandBlock.rowOf(1, many(5))));
        C.due("59 and 5 blocks", x.open(), 64);
        toldOf("59 and 5 blocks", x, 64);
        C.due("59 and 5 blocks: row of 58", x.block(58, 7), 0);
        C.due("59 and 5 blocks: row of 59", x.block(59, 7), 1);
        Checks.feedAll(x, HandBlock.rowOf(1, many(2)));
        x.open();
        toldOf("59 and 5 blocks, then 2", x, 2);
    }

    private static void toldOf(String name, SortPacks x, int blocks) {
        C.due(name + ": how many", x.block(-1, 0), blocks);
        C.due(name + ": block(-1, 1)", x.block(-1, 1), BAD);
        for (int i : new int[] {0, 1, 2, 58, 59, 60, 61, blocks - 1, blocks}) {
            boolean isTold = i < Math.min(blocks, 60);
            C.due(name + ": block(" + i + ", 0)", x.block(i, 0), isTold ? x.mark(i) : BAD);
            C.due(name + ": block(" + i + ", 1)", x.block(i, 1), isTold ? 1 : BAD);
            C.due(name + ": block(" + i + ", 8)", x.block(i, 8), isTold ? 2 : BAD);
            C.due(name + ": sum(" + i + ")", x.sum(i), isTold ? BitRow.sum(97) : 0);
        }
    }

    private static void sum() {
        C.holds("Promise 14", "The SUM of BLOCK i.");
        int[] input = Checks.mixed(3, 500, 256);
        PlainPacker due = new PlainPacker(input, 1);
        SortPacks x = Checks.fed(1, input);
        x.pack();
        int below = 0;
        for (int i = 0; i < due.sums.size(); i++) {
            C.due("packed: sum(" + i + ")", x.sum(i), due.sums.get(i));
            below += due.sums.get(i) < 0 ? 1 : 0;
        }
        C.due("SUMS whose highest bit is 1 were among them", below > 0 ? 1 : 0, 1);
        Checks.feedAll(x, due.row.bytes());
        x.open();
        for (int i = 0; i < due.sums.size(); i++) {
            C.due("opened: sum(" + i + ")", x.sum(i), due.sums.get(i));
        }
        x.alone(1);
        C.due("alone: sum(0) stays", x.sum(0), due.sums.get(0));
    }

    private static void sumNone() {
        C.holds("Promise 14", "BAD (0 here): none such.");
        SortPacks x = new SortPacks(1);
        noSums("new", x, 0);
        x.octets(1, 9);
        x.pack();
        noSums("packed", x, 1);
        x.pass();
        x.pass();
        x.open();
        noSums("opened", x, 2);
        Checks.feedAll(x, with(1).sum(1).writeTo(with(1).writeTo(new BitRow().head(1))).put(9, 0).bytes());
        x.open();
        noSums("one and a wrong one", x, 1);
        x.pack();
        noSums("nothing packed", x, 0);
    }

    private static void noSums(String name, SortPacks x, int blocks) {
        for (int i : new int[] {-1, -2, blocks, blocks + 1, 59, 60, 61, MIN, MAX}) {
            C.due(name + ": sum(" + i + ")", x.sum(i), 0);
        }
        C.due(name + ": the last is one", blocks > 0 && x.sum(blocks - 1) == 0 ? 1 : 0, 0);
    }

    private static void dueCoding(String name, SortPacks x, int choices) {
        C.due(name + ": the last CHOICE", choices == 0 ? BAD : x.choice(choices - 1), choices == 0 ? BAD : 0);
        C.due(name + ": no CHOICE behind", x.choice(choices), BAD);
        C.due(name + ": LENGTH", x.length(1, 2), choices == 0 ? BAD : 2);
    }

    private static void choice() {
        C.holds("Promise 15", "CHOICE k of the last BLOCK that was packed, or opened (also alone) with no RULE broken");
        SortPacks x = Checks.fed(1, HandBlock.rowOf(1, with(3), with(5)));
        x.open();
        dueCoding("the last of two", x, 5);
        x.alone(0);
        dueCoding("alone(0)", x, 3);
        x.alone(1);
        dueCoding("alone(1)", x, 5);
        BitRow row = with(7).sum(1).writeTo(with(3).writeTo(new BitRow().head(1))).put(40, 0);
        Checks.feedAll(x, row.bytes());
        x.open();
        dueCoding("the one before a wrong SUM", x, 3);
        C.due("alone(1) breaks 12", x.alone(1) < -10 ? x.rule() : 0, 12);
        dueCoding("alone(1), which is broken, leaves it", x, 3);
        // Broken within the CHOICES, the LENGTHS, the codes: what was read of them is not told.
        for (int bits : new int[] {150, 165, 175, 185, 190}) {
            BitRow cut = with(3).writeTo(new BitRow().head(1));
            String next = with(20).writeTo(new BitRow()).text();
            Checks.feedAll(x, cut.put(next.substring(0, bits)).bytes());
            x.open();
            dueCoding("the one before one that is cut at " + bits, x, 3);
        }
        Checks.feedAll(x, with(4).writeTo(new BitRow().head(1)).last(0).bytes());
        x.open();
        C.due("a wrong JOINED SUM: rule", x.rule(), 13);
        dueCoding("the one before a wrong JOINED SUM", x, 4);
        int[] input = Checks.mixed(5, 450, 30);
        PlainPacker due = new PlainPacker(input, 1);
        SortPacks y = Checks.fed(1, input);
        y.pack();
        for (int k = 0; k < due.choices.length; k++) {
            C.due("the last packed: choice(" + k + ")", y.choice(k), due.choices[k]);
        }
        C.due("the last packed: none behind", y.choice(due.choices.length), BAD);
    }

    private static void sinceTheLatest() {
        C.holds("Promise 15", "since the latest pack() or open() began.");
        SortPacks x = new SortPacks(1);
        dueCoding("new", x, 0);
        Checks.feedAll(x, HandBlock.rowOf(1, with(3)));
        x.open();
        dueCoding("opened", x, 3);
        x.open();
        dueCoding("nothing opened since", x, 0);
        C.due("nothing opened since: length(0, 0)", x.length(0, 0), BAD);
        Checks.feedAll(x, HandBlock.rowOf(1, with(3)));
        x.open();
        x.pack();
        dueCoding("nothing packed since", x, 0);
        C.due("nothing packed since: alone", x.alone(0), 1);
        dueCoding("alone since", x, 3);
        x.octets(1, 1);
        x.pack();
        C.due("packed since: CHOICES", x.choice(1), BAD);
        x.octets(66, 3);
        x.open();
        dueCoding("a broken head since", x, 0);
        Checks.feedAll(x, with(7).sum(1).writeTo(new BitRow().head(1)).put(9, 0).bytes());
        x.open();
        dueCoding("a first BLOCK that is broken since", x, 0);
    }

    private static void choiceBad() {
        C.holds("Promise 15", "BAD: none such.");
        SortPacks x = Checks.fed(1, HandBlock.rowOf(1, with(6)));
        C.due("new: choice(0)", x.choice(0), BAD);
        x.open();
        for (int k : new int[] {-1, 6, 7, 12000, 32768, MIN, MAX}) {
            C.due("choice(" + k + ") of 6", x.choice(k), BAD);
        }
        C.due("choice(5) of 6", x.choice(5), 0);
        // Fewer than before: what an earlier BLOCK had is none of it.
        Checks.feedAll(x, HandBlock.rowOf(1, with(600), with(2)));
        x.open();
        C.due("choice(2) of 2", x.choice(2), BAD);
        C.due("choice(1) of 2", x.choice(1), 0);
    }

    private static void length() {
        C.holds("Promise 16", "The LENGTH of a number in a TABLE of that BLOCK.");
        HandBlock made = HandBlock.ofTwo(new int[] {0, 3}, 97);
        made.tables = 3;
        made.lengths = new int[][] {{2, 2, 2, 2}, {20, 1, 19, 2}, {5, 4, 3, 2}};
        SortPacks x = Checks.fed(1, HandBlock.rowOf(1, made, with(1)));
        x.open();
        C.due("the last BLOCK: length(0, 0)", x.length(0, 0), 1);
        x.alone(0);
        for (int t = 0; t < 3; t++) {
            for (int v = 0; v < 4; v++) {
                C.due("length(" + t + ", " + v + ")", x.length(t, v), made.lengths[t][v]);
            }
        }
    }

    private static void lengthBad() {
        C.holds("Promise 16", "BAD: none such.");
        SortPacks x = Checks.fed(1, HandBlock.rowOf(1, HandBlock.ofTwo(new int[] {0, 3}, 97), with(1)));
        C.due("new: length(0, 0)", x.length(0, 0), BAD);
        x.open();
        for (int number : new int[] {-1, 3, 4, 257, 258, MIN, MAX}) {
            C.due("length(0, " + number + ") of 3 numbers", x.length(0, number), BAD);
            C.due("length(1, " + number + ") of 3 numbers", x.length(1, number), BAD);
        }
        for (int table : new int[] {-1, 2, 3, 5, 6, 7, MIN, MAX}) {
            C.due("length(" + table + ", 0) of 2 TABLES", x.length(table, 0), BAD);
        }
        x.alone(0);
        C.due("length(1, 3) of 4 numbers", x.length(1, 3), 2);
        C.due("length(1, 4) of 4 numbers", x.length(1, 4), BAD);
        SortPacks y = Checks.fed(9, Checks.mixed(1, 1500, 255));
        y.pack();
        C.due("five TABLES", y.length(4, 0) > 0 ? 1 : 0, 1);
        C.due("five TABLES: length(5, 0)", y.length(5, 0), BAD);
        y.octets(1, 1);
        y.pack();
        C.due("two TABLES behind five: length(2, 0)", y.length(2, 0), BAD);
        C.due("three numbers behind many: length(0, 3)", y.length(0, 3), BAD);
    }
}
