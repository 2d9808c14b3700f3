import java.util.Arrays;

/** Promises 17 and 18, sentence by sentence: marks, and BLOCKS that are opened alone. */
public final class AloneTest {
    private static final Checks C = new Checks("AloneTest");
    private static final int BAD = SortPacks.BAD;
    private static final int[] NO_INDEX = {-1, -2, 300, Integer.MIN_VALUE, Integer.MAX_VALUE};

    public static void main(String[] args) {
        mark();
        markOfWhatOpenHad();
        markBad();
        alone();
        aloneOut();
        aloneBroken();
        aloneBad();
        blocksStay();
        C.finish();
    }

    private static SortPacks opened(BitRow row) {
        SortPacks x = Checks.fed(1, row.bytes());
        x.open();
        return x;
    }

    private static void mark() {
        C.holds("Promise 17", "In what the last open() had: the i-th bit from which on THE MARK stands.");
        for (int shift = 0; shift < 17; shift++) {
            // Also in what is no row at all, and with nothing behind it.
            BitRow row = new BitRow().put("1".repeat(shift)).put(48, BitRow.BLOCK_MARK).put(9, 0);
            int second = row.size();
            SortPacks x = opened(row.put(48, BitRow.BLOCK_MARK));
            C.due("no row behind " + shift + ": rule", x.rule(), 2);
            C.due("mark(0) behind " + shift, x.mark(0), shift);
            C.due("mark(1) behind " + shift, x.mark(1), second);
            C.due("mark(2) behind " + shift, x.mark(2), BAD);
        }
        // Its first three bits are its last three, too: the second begins within the first.
        String bits = new BitRow().put(48, BitRow.BLOCK_MARK).text();
        C.due("three bits are shared", bits.startsWith(bits.substring(45)) ? 1 : 0, 1);
        SortPacks y = opened(new BitRow().put(bits).put(bits.substring(3)).put(bits.substring(3)));
        for (int i = 0; i < 3; i++) {
            C.due("shared bits: mark(" + i + ")", y.mark(i), 45 * i);
        }
        C.due("shared bits: mark(3)", y.mark(3), BAD);
        SortPacks most = opened(new BitRow().put(bits.repeat(250)));
        C.due("250 marks: the first", most.mark(0), 0);
        C.due("250 marks: the last", most.mark(249), 249 * 48);
        C.due("250 marks: none behind", most.mark(250), BAD);
        int[] input = Checks.mixed(11, 900, 40);
        PlainPacker packed = new PlainPacker(input, 1);
        SortPacks x = Checks.fed(1, packed.row.bytes());
        x.open();
        for (int i = 0; i < packed.facts.size(); i++) {
            C.due("five BLOCKS: mark(" + i + ")", x.mark(i), packed.facts.get(i)[0]);
        }
        C.due("five BLOCKS: none behind", x.mark(packed.facts.size()), BAD);
    }

    private static void markOfWhatOpenHad() {
        C.holds("Promise 17", "In what the last open() had");
        SortPacks x = new SortPacks(1);
        Checks.feedAll(x, Checks.hex("314159265359"));
        C.due("the input", x.mark(0), BAD);
        x.drop(6);
        x.octets(5, 3);
        x.pack();
        C.due("OUT", x.mark(0), BAD);
        x.pass();
        C.due("OUT that is passed", x.mark(0), BAD);
        x.open();
        C.due("opened", x.mark(0), 32);
        x.octets(5, 3);
        x.pack();
        C.due("opened, then packed", x.mark(0), 32);
        C.due("the mark is one of a BLOCK that stays", x.alone(0), 3);
        Checks.feedAll(x, Checks.hex("00314159265359"));
        x.open();
        C.due("opened again", x.mark(0), 8);
        x.open();
        C.due("nothing opened", x.mark(0), BAD);
    }

    private static void markBad() {
        C.holds("Promise 17", "BAD: there are not so many.");
        SortPacks x = new SortPacks(1);
        x.open();
        noMarks("nothing", x, 0);
        Checks.feedAll(x, Checks.hex("3141592653"));
        x.open();
        noMarks("40 bits of it", x, 0);
        for (int less = 1; less < 9; less++) {
            String bits = new BitRow().put(48, BitRow.BLOCK_MARK).text();
            BitRow row = new BitRow().put("1".repeat(less)).put(bits.substring(0, 48 - less));
            noMarks("all but the last " + less + " bits of it", opened(row), 0);
            // THE MARK begins with two 0s, which are not to be taken from ahead of the first bit.
            row = new BitRow().put(bits.substring(less)).put("1".repeat(less));
            noMarks("all but the first " + less + " bits of it", opened(row), 0);
        }
        for (int bit = 0; bit < 48; bit++) {
            BitRow row = new BitRow().put(48, BitRow.BLOCK_MARK ^ 1L << bit).put(48, 0);
            C.due("bit " + bit + " of it turned", opened(row).mark(0), BAD);
        }
        noMarks("THE END", opened(new BitRow().head(1).last(0)), 0);
        noMarks("48 bits", opened(new BitRow().put(48, BitRow.BLOCK_MARK)), 1);
    }

    private static void noMarks(String name, SortPacks x, int marks) {
        C.due(name + ": mark(" + marks + ")", x.mark(marks), BAD);
        C.due(name + ": alone(" + marks + ")", x.alone(marks), BAD);
        for (int i : NO_INDEX) {
            C.due(name + ": mark(" + i + ")", x.mark(i), BAD);
        }
    }

    private static void alone() {
        C.holds("Promise 18", "The BLOCK whose MARK is at mark(i) is opened alone");
        int[] input = Checks.mixed(11, 900, 40);
        PlainPacker packed = new PlainPacker(input, 1);
        int from = 0;
        for (int i = 0; i < packed.facts.size(); i++) {
            int[] facts = packed.facts.get(i);
            int[] due = Arrays.copyOfRange(input, from, from + facts[1]);
            from += facts[1];
            SortPacks y = Checks.fed(9, packed.row.bytes());
            // What is wrong ahead of it does not matter.
            y.spoil(0, i % 2 * 5 + 1);
            y.open();
            C.due("a spoiled head: rule", y.rule(), 2);
            C.due("alone(" + i + ")", y.alone(i), due.length);
            C.due("alone(" + i + "): rule", y.rule(), 0);
            C.dueBytes("alone(" + i + ")", Checks.outFrom(y, 0), due);
            C.due("alone(" + i + "): its own CHOICES", y.choice(facts[6] - 1) >= 0 ? 1 : 0, 1);
            C.due("alone(" + i + "): its own CHOICES", y.choice(facts[6]), BAD);
            C.due("alone(" + i + "): its own LENGTHS", y.length(0, facts[4] + 1) > 0 ? 1 : 0, 1);
            C.due("alone(" + i + "): its own LENGTHS", y.length(0, facts[4] + 2), BAD);
        }
        for (int shift = 0; shift < 9; shift++) {
            // What is behind it does not matter, nor that there is nothing.
            BitRow row = HandBlock.oneByte().writeTo(new BitRow().put("1".repeat(shift)));
            C.due("behind " + shift + " bits and nothing else", opened(row).alone(0), 1);
            C.due("behind " + shift + " bits", opened(row.put("1".repeat(50))).alone(0), 1);
        }
    }

    private static void aloneOut() {
        C.holds("Promise 18", "OUT is that; how many bytes");
        BitRow row = new BitRow().head(1);
        HandBlock.ofSign(7, null, Checks.times(7, 11)).numbersFor(5).writeTo(row);
        HandBlock.oneByte().writeTo(row);
        SortPacks x = opened(row.put(9, 0));
        C.due("open has both", x.count(1), 12);
        C.due("alone(1)", x.alone(1), 1);
        C.due("alone(1): OUT", x.count(1), 1);
        C.due("alone(1): out(0)", x.out(0), 97);
        C.dueNoByte(x, 1);
        C.due("alone(0)", x.alone(0), 11);
        C.due("alone(0): OUT", x.count(1), 11);
        C.due("alone(0): out(10)", x.out(10), 7);
        C.due("alone(0): it is passed", x.pass(), 11);
        C.due("the input is not touched else", x.count(0), 11);
        C.due("what open() had stays", x.count(2), row.bytes().length);
        // OUT is empty at first: 3,000 of one BLOCK are not too many behind 3,000 of another.
        int[] half = new PlainPacker(Checks.times(3, 1500), 9).row.bytes();
        SortPacks y = Checks.fed(1, Checks.join(half, half, half));
        y.open();
        C.due("4,500 bytes: rule", y.rule(), 11);
        C.due("4,500 bytes: OUT", y.count(1), 3000);
        C.due("4,500 bytes: the third alone", y.alone(2), 1500);
        C.due("4,500 bytes: the third alone: rule", y.rule(), 0);
        C.due("4,500 bytes: the third alone: OUT", y.count(1), 1500);
    }

    private static void aloneBroken() {
        C.holds("Promise 18", "- 10 less the bytes of which bits were read: OUT is empty.");
        for (int shift = 0; shift < 9; shift++) {
            BitRow row = HandBlock.oneByte().writeTo(new BitRow().put("1".repeat(shift)));
            HandBlock.oneByte().sum(1).writeTo(row);
            int read = (row.size() + 7) / 8;
            SortPacks x = opened(row.put(40, 0).put(48, BitRow.BLOCK_MARK));
            C.due("alone(0) behind " + shift, x.alone(0), 1);
            C.due("alone(1): a wrong SUM", x.alone(1), -10 - read);
            C.due("alone(1): rule", x.rule(), 12);
            C.due("alone(1): OUT", x.count(1), 0);
            C.dueNoByte(x, 0);
            C.due("alone(1): nothing to pass", x.pass(), 0);
            C.due("alone(1): CHOICES of alone(0)", x.choice(0), 0);
            x.alone(0);
            C.due("alone(2): nothing behind it", x.alone(2), -10 - row.bytes().length);
            C.due("alone(2): rule", x.rule(), 1);
            C.due("alone(2): OUT", x.count(1), 0);
        }
        // What is broken there is not broken for a BLOCK before.
        SortPacks x = Checks.fed(1, new PlainPacker(Checks.times(255, 1500), 9).row.bytes());
        x.open();
        C.due("a good one", x.alone(0), 1500);
        C.due("a good one: rule", x.rule(), 0);
    }

    private static void aloneBad() {
        C.holds("Promise 18", "BAD: none such.");
        SortPacks x = new SortPacks(1);
        C.due("no open() before", x.alone(0), BAD);
        x.octets(5, 3);
        x.pack();
        C.due("pack() before", x.alone(0), BAD);
        x.pass();
        x.open();
        for (int i : NO_INDEX) {
            C.due("alone(" + i + ")", x.alone(i), BAD);
        }
        C.due("alone(1)", x.alone(1), BAD);
        C.due("OUT stays", x.count(1), 3);
        C.due("the CHOICES stay", x.choice(0), 1);
        C.due("the BLOCKS stay", x.block(-1, 0), 1);
        C.due("no RULE is broken", x.rule(), 0);
    }

    private static void blocksStay() {
        C.holds("Promise 18", "(Blocks, told by block(), stay.)");
        PlainPacker packed = new PlainPacker(Checks.mixed(12, 600, 9), 1);
        SortPacks x = Checks.fed(1, packed.row.bytes());
        x.open();
        for (int i = packed.facts.size() - 1; i >= 0; i--) {
            C.due("alone(" + i + ")", x.alone(i), packed.facts.get(i)[1]);
            dueBlocks("behind alone(" + i + ")", x, packed);
        }
        x.alone(9);
        dueBlocks("behind alone(9)", x, packed);
        // Those of pack() stay, too, though alone() opens what open() had.
        x.octets(6, 9);
        x.pack();
        C.due("behind pack(): alone", x.alone(1), packed.facts.get(1)[1]);
        C.due("behind pack(): one BLOCK", x.block(-1, 0), 1);
        C.due("behind pack(): its bytes", x.block(0, 1), 9);
        C.due("behind pack(): its SUM", x.sum(0), BitRow.sum(Checks.times(6, 9)));
        // A broken one leaves them as well, and where there are none, none come.
        SortPacks y = Checks.fed(1, packed.row.bytes());
        y.spoil(0, 1);
        y.spoil(12, 1);
        y.open();
        C.due("spoiled head: alone(0)", y.alone(0) < -10 ? y.rule() : 0, 12);
        C.due("spoiled head: no BLOCKS", y.block(-1, 0), 0);
        C.due("spoiled head: alone(1)", y.alone(1), packed.facts.get(1)[1]);
        C.due("spoiled head: no BLOCKS", y.block(-1, 0), 0);
        C.due("spoiled head: block(0, 0)", y.block(0, 0), BAD);
        C.due("spoiled head: sum(0)", y.sum(0), 0);
    }

    private static void dueBlocks(String name, SortPacks x, PlainPacker packed) {
        C.due(name + ": how many", x.block(-1, 0), packed.facts.size());
        for (int i = 0; i < packed.facts.size(); i++) {
            for (int what = 0; what < 9; what++) {
                C.due(name + ": block(" + i + ", " + what + ")", x.block(i, what), packed.facts.get(i)[what]);
            }
            C.due(name + ": sum(" + i + ")", x.sum(i), packed.sums.get(i));
        }
    }
}
