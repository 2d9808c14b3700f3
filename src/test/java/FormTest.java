import java.util.Arrays;

/** Terms, 1 THE FORM, sentence by sentence: what is packed has it, and what has it is opened. */
public final class FormTest {
    private static final Checks C = new Checks("FormTest");

    public static void main(String[] args) {
        outMost();
        bitOrder();
        rowHead();
        rowEnd();
        rows();
        room();
        head();
        map();
        tables();
        choices();
        places();
        lengths();
        sums();
        blockSums();
        joinedSum();
        C.finish();
    }

    private static SortPacks opened(String name, int[] row, int due) {
        SortPacks x = Checks.fed(1, row);
        C.due(name + ": open", x.open(), due);
        return x;
    }

    private static SortPacks packed(int level, int... input) {
        SortPacks x = Checks.fed(level, input);
        x.pack();
        return x;
    }

    private static void outMost() {
        C.holds("Terms", "OUT: at most 4,000 (what is opened: 3,000).");
        for (int size = 2999; size <= 3001; size++) {
            int[] rows = Checks.join(new PlainPacker(Checks.times(1, 1500), 9).row.bytes(),
                new PlainPacker(Checks.times(2, 1000), 9).row.bytes(),
                new PlainPacker(Checks.times(3, size - 2500), 9).row.bytes());
            SortPacks x = Checks.fed(1, rows);
            boolean fits = size <= 3000;
            C.due(size + " bytes: open", x.open() < 0 ? 0 : 1, fits ? 1 : 0);
            C.due(size + " bytes: rule", x.rule(), fits ? 0 : 11);
            C.due(size + " bytes: OUT", x.count(1), fits ? size : 2500);
            C.due(size + " bytes: the last", x.out(x.count(1) - 1), fits ? 3 : 2);
            C.dueNoByte(x, fits ? size : 2500);
        }
    }

    private static void bitOrder() {
        C.holds("Terms", "Numbers are written with their highest bit first; bits fill bytes from the highest on.");
        // Of the turns abb, bab, bba the one from place 0 is the second: the ORIGIN is 1, its bits are 113 to 136.
        SortPacks x = packed(1, 98, 97, 98);
        int[] mark = {0x31, 0x41, 0x59, 0x26, 0x53, 0x59};
        for (int k = 0; k < 6; k++) {
            C.due("byte " + k + " of THE MARK", x.out(4 + k), mark[k]);
        }
        for (int k = 0; k < 4; k++) {
            C.due("byte " + k + " of the SUM", x.out(10 + k), x.sum(0) >> 24 - 8 * k & 255);
            C.due("byte " + (14 + k) + ": the ORIGIN", x.out(14 + k) & (k < 3 ? 255 : 128), k < 3 ? 0 : 128);
        }
        HandBlock one = HandBlock.ofTwo(new int[] {2, 0, 2, 3}, 98, 97, 98).origin(1);
        C.due("the lowest bit is the last", opened("ORIGIN 1", HandBlock.rowOf(1, one), 3).block(0, 3), 1);
    }

    private static void rowHead() {
        C.holds("Terms 1", "A row: the bytes 66, 90, 104, 48 and LEVEL (1 .. 9); BLOCKS; THE END");
        for (int level = 1; level <= 9; level++) {
            int[] due = {66, 90, 104, 48 + level, 0x17, 0x72, 0x45, 0x38, 0x50, 0x90, 0, 0, 0, 0};
            C.dueBytes("LEVEL " + level + " packed", Checks.outFrom(packed(level), 0), due);
            opened("LEVEL " + level, due, 0);
            opened("LEVEL " + level + " with a BLOCK", HandBlock.rowOf(level, HandBlock.oneByte()), 1);
            opened("LEVEL " + level + " with two", HandBlock.rowOf(level, HandBlock.oneByte(), HandBlock.oneByte()), 2);
        }
        for (int fourth : new int[] {0, 1, 9, 47, 48, 58, 59, 255}) {
            int[] row = HandBlock.rowOf(1);
            row[3] = fourth;
            C.due("fourth byte " + fourth + ": rule", opened("fourth byte " + fourth, row, -14).rule(), 2);
        }
    }

    private static void rowEnd() {
        C.holds("Terms 1", "THE END: 48 bits 0x177245385090, THE JOINED SUM (32), 0s to a whole byte.");
        boolean[] seen = new boolean[8];
        for (int size = 1; size < 40; size++) {
            int[] input = Checks.mixed(size, size, 9);
            PlainPacker due = new PlainPacker(input, 1);
            SortPacks x = packed(1, input);
            String bits = new BitRow().putBytes(Checks.outFrom(x, 0)).text();
            String end = new BitRow().put(48, BitRow.END_MARK).put(32, x.sum(0)).text();
            int behind = bits.length() - bits.lastIndexOf(end) - 80;
            seen[behind] = true;
            C.due(size + " bytes: no whole byte behind", behind < 8 ? 1 : 0, 1);
            C.due(size + " bytes: 0s behind", bits.endsWith("0".repeat(behind)) ? 1 : 0, 1);
            C.dueBytes(size + " bytes: packed", Checks.outFrom(x, 0), due.row.bytes());
        }
        for (int behind = 0; behind < 8; behind++) {
            C.due(behind + " bits behind were among them", seen[behind] ? 1 : 0, 1);
        }
        for (int more = 0; more < 8; more++) {
            int[] row = HandBlock.rowOf(1, HandBlock.oneByte().choices(1 + more));
            opened("shifted by " + more, row, 1);
            C.due("shifted by " + more + ", a byte 0 behind: rule",
                opened("shifted by " + more + ", a byte 0 behind", Checks.join(row, new int[1]), -11 - row.length).rule(), 2);
        }
    }

    private static void rows() {
        C.holds("Terms 1", "Rows may stand one behind the other.");
        int[] none = HandBlock.rowOf(1);
        int[] one = HandBlock.rowOf(9, HandBlock.oneByte());
        opened("one", none, 0);
        opened("none, then one", Checks.join(none, one), 1);
        opened("one, then none", Checks.join(one, none), 1);
        opened("one three times", Checks.join(one, one, one), 3);
        int[] most = new int[0];
        for (int k = 0; k < 104; k++) {
            most = Checks.join(most, none);
        }
        SortPacks x = opened("104 rows without a BLOCK and one with", Checks.join(most, one), 1);
        C.due("its row", x.block(0, 7), 104);
        C.due("its bit", x.block(0, 0), 8 * 104 * 14 + 32);
        opened("107 rows without a BLOCK", Checks.join(most, none, none, none), 0);
        // Each row has the ROOM of its own LEVEL.
        HandBlock wide = zeros(400);
        opened("LEVEL 1, then LEVEL 2", Checks.join(HandBlock.rowOf(1, zeros(200)), HandBlock.rowOf(2, wide)), 160 + 320);
        C.due("LEVEL 2, then LEVEL 1: rule",
            opened8("LEVEL 2, then LEVEL 1", Checks.join(HandBlock.rowOf(2, wide), HandBlock.rowOf(1, wide))).count(1), 320);
    }

    private static SortPacks opened8(String name, int[] row) {
        SortPacks x = Checks.fed(1, row);
        C.due(name + " is broken", x.open() < -10 ? 1 : 0, 1);
        C.due(name + ": rule", x.rule(), 8);
        return x;
    }

    /** A BLOCK of so many bytes 0, which has four 0s for each five. */
    private static HandBlock zeros(int size) {
        HandBlock made = HandBlock.ofSign(0, null).numbersFor(size);
        return made.sum(BitRow.sum(new int[size / 5 * 4 + size % 5]));
    }

    private static void room() {
        C.holds("Terms 1", "A BLOCK has ROOM for 200 times LEVEL bytes.");
        for (int level = 1; level <= 9; level++) {
            int room = 200 * level;
            SortPacks x = opened("LEVEL " + level + " filled", HandBlock.rowOf(level, zeros(room)), room / 5 * 4);
            C.due("LEVEL " + level + " filled", x.block(0, 2), room);
            opened8("LEVEL " + level + " and one more", HandBlock.rowOf(level, zeros(room + 1)));
            // Fours take five bytes each, so that 1,500 bytes fill even the ROOM of LEVEL 9.
            SortPacks full = packed(level, fours(room / 5));
            C.due("LEVEL " + level + " packed: blocks", full.block(-1, 0), 1);
            C.due("LEVEL " + level + " packed: bytes", full.block(0, 2), room);
            SortPacks over = packed(level, Checks.join(fours(room / 5), new int[] {201}));
            C.due("LEVEL " + level + " and one packed: blocks", over.block(-1, 0), 2);
            C.due("LEVEL " + level + " and one packed: bytes", over.block(0, 2), room);
            C.due("LEVEL " + level + " and one packed: bytes", over.block(1, 2), 1);
        }
    }

    private static int[] fours(int groups) {
        int[] bytes = new int[4 * groups];
        for (int k = 0; k < bytes.length; k++) {
            bytes[k] = k / 4 % 200;
        }
        return bytes;
    }

    private static void head() {
        C.holds("Terms 1", "A BLOCK: THE MARK: 48 bits 0x314159265359; its SUM (32); a bit 0; the ORIGIN (24)");
        SortPacks x = packed(1, 98, 97, 98);
        String bits = new BitRow().putBytes(Checks.outFrom(x, 0)).text();
        // Of the turns abb, bab, bba the one from place 0 is the second.
        String due = new BitRow().put(48, BitRow.BLOCK_MARK).put(32, BitRow.sum(98, 97, 98)).put("0").put(24, 1).text();
        C.due("behind the head of the row", bits.indexOf(due), 32);
        for (int origin : new int[] {0, 1, 198, 199}) {
            HandBlock made = zeros(200).origin(origin);
            C.due("ORIGIN " + origin, opened("ORIGIN " + origin, HandBlock.rowOf(1, made), 160).block(0, 3), origin);
        }
        // Bits above the sixteenth belong to it, too.
        for (int origin : new int[] {200, 1 << 16, 1 << 23, 0xFFFFFF}) {
            SortPacks y = Checks.fed(1, HandBlock.rowOf(1, zeros(200).origin(origin)));
            y.open();
            C.due("ORIGIN " + origin + ": rule", y.rule(), 9);
        }
    }

    private static void map() {
        C.holds("Terms 1", "which SIGNS are there: 16 bits, for each sixteen (from 0 on; the first bit is that of the "
            + "lowest ones), for each 1 of them 16 bits more");
        for (int sign : new int[] {0, 1, 14, 15, 16, 17, 127, 128, 239, 240, 254, 255}) {
            SortPacks x = packed(1, sign);
            String bits = new BitRow().putBytes(Checks.outFrom(x, 0)).text();
            String due = new BitRow().put(16, 0x8000 >> sign / 16).put(16, 0x8000 >> sign % 16).put(3, 2).text();
            C.due("SIGN " + sign, bits.startsWith(due, 32 + 105) ? 1 : 0, 1);
            HandBlock made = HandBlock.ofSign(sign, new int[] {0, 2}, sign);
            C.due("SIGN " + sign, opened("SIGN " + sign, HandBlock.rowOf(1, made), 1).out(0), sign);
        }
        int[] all = new int[256];
        for (int k = 0; k < 256; k++) {
            all[k] = 255 - k;
        }
        SortPacks x = packed(2, all);
        C.due("all SIGNS", x.block(0, 4), 256);
        String bits = new BitRow().putBytes(Checks.outFrom(x, 0)).text();
        C.due("all SIGNS: 272 bits", bits.startsWith("1".repeat(272) + "011", 32 + 105) ? 1 : 0, 1);
        x.pass();
        C.due("all SIGNS opened", x.open(), 256);
        SortPacks z = Checks.fed(1, new PlainPacker(all, 2).row.bytes());
        z.open();
        C.dueBytes("all SIGNS opened", Checks.outFrom(z, 0), all);
        SortPacks y = packed(1, 0, 255, 15, 16);
        String four = new BitRow().putBytes(Checks.outFrom(y, 0)).text();
        String due = new BitRow().put(16, 0xC001).put(16, 0x8001).put(16, 0x8000).put(16, 1).put(3, 2).text();
        C.due("SIGNS 0, 15, 16, 255", four.startsWith(due, 32 + 105) ? 1 : 0, 1);
        // A sixteen may be told though none of its SIGNS are there.
        BitRow row = new BitRow().head(1);
        HandBlock made = HandBlock.oneByte();
        made.writeHead(row).put(16, 0x8201).put(16, 0).put(16, 0x4000).put(16, 0);
        made.writeChoices(row);
        made.writeLengths(row);
        C.due("empty sixteens", opened("empty sixteens", made.writeCodes(row).last(made.sum).bytes(), 1).block(0, 4), 1);
    }

    private static void tables() {
        C.holds("Terms 1", "how many TABLES (3 bits)");
        for (int tables = 2; tables <= 6; tables++) {
            HandBlock made = HandBlock.oneByte();
            made.tables = tables;
            made.lengths = new int[tables][];
            Arrays.fill(made.lengths, new int[] {1, 2, 2});
            SortPacks x = opened(tables + " TABLES", HandBlock.rowOf(1, made), 1);
            C.due(tables + " TABLES", x.block(0, 5), tables);
            C.due(tables + " TABLES: the last one's", x.length(tables - 1, 2), 2);
            C.due(tables + " TABLES: none behind", x.length(tables, 2), SortPacks.BAD);
        }
    }

    private static void choices() {
        C.holds("Terms 1", "how many CHOICES (15)");
        for (int choices : new int[] {1, 2, 255, 256, 8191, 8192, 11000}) {
            SortPacks x = opened(choices + " CHOICES", HandBlock.rowOf(1, HandBlock.oneByte().choices(choices)), 1);
            C.due(choices + " CHOICES", x.block(0, 6), choices);
            C.due(choices + " CHOICES: the last", x.choice(choices - 1), 0);
            C.due(choices + " CHOICES: none behind", x.choice(choices), SortPacks.BAD);
        }
        for (int choices : new int[] {12000, 16384, 32767}) {
            BitRow row = new BitRow().head(1);
            HandBlock made = HandBlock.oneByte();
            made.writeMap(made.writeHead(row)).put(3, 2).put(15, choices).put("0".repeat(12000 - row.size()));
            C.due(choices + " CHOICES: rule", opened(choices + " CHOICES in 1500 bytes", row.bytes(), -1510).rule(), 1);
        }
    }

    private static void places() {
        C.holds("Terms 1", "each CHOICE moved to the front: its place in a row of the TABLES (0, 1 .. at first; "
            + "the one chosen comes to the front): so many 1s, and a 0");
        for (int tables = 2; tables <= 6; tables++) {
            HandBlock made = HandBlock.oneByte();
            made.tables = tables;
            made.lengths = new int[tables][];
            Arrays.fill(made.lengths, new int[] {1, 2, 2});
            // The last place again and again goes through the TABLES from the last to the first, and round.
            made.places = Checks.times(tables - 1, 2 * tables + 1);
            SortPacks x = opened("the last of " + tables, HandBlock.rowOf(1, made), 1);
            for (int k = 0; k <= 2 * tables; k++) {
                C.due("the last of " + tables + ": choice(" + k + ")", x.choice(k), tables - 1 - k % tables);
            }
            made.places = new int[] {1, 1, 0, 1, 0, 0};
            x = opened("the second of " + tables, HandBlock.rowOf(1, made), 1);
            int[] due = {1, 0, 0, 1, 1, 1};
            for (int k = 0; k < 6; k++) {
                C.due("the second of " + tables + ": choice(" + k + ")", x.choice(k), due[k]);
            }
        }
        SortPacks x = packed(9, Checks.mixed(4, 1500, 256));
        int[] chosen = new int[x.block(0, 6)];
        for (int k = 0; k < chosen.length; k++) {
            chosen[k] = x.choice(k);
        }
        String bits = new BitRow().putBytes(Checks.outFrom(x, 0)).text();
        String due = new BitRow().put(3, 5).put(15, chosen.length).text() + placesOf(chosen);
        C.due("packed", bits.startsWith(due, 32 + 105 + 272) ? 1 : 0, 1);
    }

    private static String placesOf(int[] chosen) {
        StringBuilder front = new StringBuilder("01234");
        StringBuilder places = new StringBuilder();
        for (int table : chosen) {
            int place = front.indexOf("" + table);
            front.deleteCharAt(place).insert(0, table);
            places.append("1".repeat(place)).append('0');
        }
        return places.toString();
    }

    private static void lengths() {
        C.holds("Terms 1", "for each TABLE its LENGTHS: 5 bits: one; then for each sign of the alphabet: as long as a "
            + "bit is 1: another bit: 0: one more, 1: one less; then a 0: that is this sign's");
        int[][] tables = {{1, 20, 1}, {20, 1, 20}, {10, 11, 9}, {1, 1, 1}, {20, 20, 20}, {1, 2, 2}};
        HandBlock made = HandBlock.oneByte();
        made.tables = 6;
        made.lengths = tables;
        made.places = new int[] {5};
        SortPacks x = opened("from 1 to 20 and back", HandBlock.rowOf(1, made), 1);
        for (int t = 0; t < 6; t++) {
            for (int v = 0; v < 3; v++) {
                C.due("length(" + t + ", " + v + ")", x.length(t, v), tables[t][v]);
            }
        }
        // There and back again before the 0; the first sign may differ from the 5 bits.
        BitRow row = new BitRow().head(1);
        HandBlock one = HandBlock.oneByte();
        one.writeChoices(one.writeMap(one.writeHead(row)));
        row.put(5, 2).put("11" + "10" + "11" + "0" + "10" + "0" + "0").put(5, 20).put("0" + "0" + "1110" + "0");
        x = opened("there and back", row.put("011").last(one.sum).bytes(), 1);
        int[] due = {1, 2, 2};
        for (int v = 0; v < 3; v++) {
            C.due("there and back: length(0, " + v + ")", x.length(0, v), due[v]);
            C.due("there and back: length(1, " + v + ")", x.length(1, v), 20);
        }
    }

    private static void sums() {
        C.holds("Terms 1", "SUMS: s = all 1s at first; for each byte: s = s xor (the byte times 2^24); eight times: if the "
            + "highest bit is 1: s times 2, xor 0x04C11DB7, else s times 2; at last all bits turned");
        // The check value of this sum that is in common use.
        C.due("123456789", packed(1, "123456789".chars().toArray()).sum(0), 0xFC891918);
        C.due("one byte 0", packed(1, 0).sum(0), 0xB1F7404B);
        C.due("one byte 255", packed(1, 255).sum(0), 0x000000FF);
        for (int octet = 0; octet < 256; octet++) {
            C.due("one byte " + octet, packed(1, octet).sum(0), BitRow.sum(octet));
        }
    }

    private static void blockSums() {
        C.holds("Terms 1", "that of a BLOCK over its bytes as they were before their runs were shortened.");
        for (int run : new int[] {3, 4, 5, 255, 256, 1500}) {
            SortPacks x = packed(1, Checks.times(200, run));
            C.due("a run of " + run, x.sum(0), BitRow.sum(Checks.times(200, run)));
        }
        int[] input = Checks.mixed(3, 450, 256);
        SortPacks x = packed(1, input);
        C.due("each BLOCK its own", x.block(-1, 0), 3);
        int from = 0;
        for (int i = 0; i < 3; i++) {
            int to = from + x.block(i, 1);
            C.due("BLOCK " + i, x.sum(i), BitRow.sum(Arrays.copyOfRange(input, from, to)));
            from = to;
        }
    }

    private static void joinedSum() {
        C.holds("Terms 1", "THE JOINED SUM: 0 at first; for each BLOCK: turned left by one bit, xor the BLOCK's SUM.");
        boolean[] highest = new boolean[2];
        for (int seed = 0; seed < 12; seed++) {
            SortPacks x = packed(1, Checks.mixed(seed, 210, 256));
            long joined = x.sum(0) & 0xFFFFFFFFL;
            highest[(int) (joined >> 31)] = true;
            joined = (joined * 2 + (joined >> 31) ^ x.sum(1)) & 0xFFFFFFFFL;
            String due = new BitRow().put(48, BitRow.END_MARK).put(32, joined).text();
            int size = x.count(1);
            int[] last = new int[11];
            for (int k = 0; k < 11; k++) {
                last[k] = x.out(size - 11 + k);
            }
            C.due("two BLOCKS packed, seed " + seed, new BitRow().putBytes(last).text().contains(due) ? 1 : 0, 1);
        }
        C.due("a highest bit 0 was among them", highest[0] ? 1 : 0, 1);
        C.due("a highest bit 1 was among them", highest[1] ? 1 : 0, 1);
        turnedRound(1);
        turnedRound(2);
        turnedRound(255);
        C.due("no BLOCK", opened("no BLOCK", new BitRow().head(1).last(0).bytes(), 0).rule(), 0);
        C.due("no BLOCK and a 1", opened("no BLOCK and a 1", new BitRow().head(1).last(1).bytes(), -24).rule(), 13);
    }

    /** Three BLOCKS of one byte; the highest bit of the joined sum must come in again from below. */
    private static void turnedRound(int sign) {
        BitRow row = new BitRow().head(1);
        long joined = 0;
        for (int k = 0; k < 3; k++) {
            HandBlock made = HandBlock.ofSign(sign + k, new int[] {0, 2}, sign + k & 255);
            made.signs[0] &= 255;
            made.writeTo(row);
            joined = (joined * 2 % (1L << 32) | joined >> 31) ^ made.sum & 0xFFFFFFFFL;
        }
        String blocks = row.text();
        opened("three BLOCKS from " + sign, row.last(joined).bytes(), 3);
        for (int bit = 0; bit < 32; bit++) {
            int[] bytes = new BitRow().put(blocks).last(joined ^ 1L << bit).bytes();
            SortPacks x = Checks.fed(1, bytes);
            x.open();
            C.due("three BLOCKS from " + sign + ", bit " + bit + " wrong: rule", x.rule(), 13);
            C.due("three BLOCKS from " + sign + ", bit " + bit + " wrong: OUT", x.count(1), 3);
        }
    }
}
