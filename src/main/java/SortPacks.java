import java.util.Arrays;

/** Bytes packed by sorting, and opened again; see README.md. */
public final class SortPacks {
    public static final int BAD = -1, NONE = -2, FULL = -3;

    private static final int INPUT_MOST = 1500;
    private static final int OUT_MOST = 4000;
    private static final int OPENED_MOST = 3000;
    private static final int FED = 20;
    private static final int TIMES_MOST = 400;
    private static final int LEVEL_MOST = 9;
    private static final int ROOM_OF_ONE_LEVEL = 200;
    private static final int ROOM_MOST = LEVEL_MOST * ROOM_OF_ONE_LEVEL;
    private static final int SIGNS_MOST = 256;
    private static final int ALPHABET_MOST = SIGNS_MOST + 2;
    private static final int TABLES_LEAST = 2;
    private static final int TABLES_MOST = 6;
    private static final int FIFTY = 50;
    // So many like bytes are followed by the number of those that were left out.
    private static final int LIKE = 4;
    private static final int BITS_MOST = 8 * INPUT_MOST;
    private static final int LENGTH_MOST = 20;
    private static final int PACKED_LENGTH_MOST = 17;
    private static final int TOLD_MOST = 60;
    private static final int FACT_BIT = 0;
    private static final int FACT_BYTES = 1;
    private static final int FACT_SHORTENED = 2;
    private static final int FACT_ORIGIN = 3;
    private static final int FACT_SIGNS = 4;
    private static final int FACT_TABLES = 5;
    private static final int FACT_CHOICES = 6;
    private static final int FACT_ROW = 7;
    private static final int FACT_NUMBERS = 8;
    private static final int FACTS = 9;
    private static final int MARK_BITS = 48;
    private static final long BLOCK_MARK = 0x314159265359L;
    private static final long END_MARK = 0x177245385090L;
    private static final long LOW_48 = 0xFFFFFFFFFFFFL;
    private static final long LOW_32 = 0xFFFFFFFFL;
    private static final int ENDED = -1;
    private static final int NO_CODE = -2;

    private final int level;
    private final Row input;
    private final Row out;
    private final Row had;
    private final Told told;
    private final Packer packer;
    private final Opener opener;

    public SortPacks(int level) {
        this.level = Math.max(1, Math.min(LEVEL_MOST, level));
        input = new Row(INPUT_MOST);
        out = new Row(OUT_MOST);
        had = new Row(INPUT_MOST);
        told = new Told();
        Turns turns = new Turns();
        packer = new Packer(out, told, turns);
        opener = new Opener(had, out, told, turns);
    }

    public int feed(int a, int b, int c, int d, int e) {
        if (!input.hasRoom(FED)) {
            return FULL;
        }
        input.addNumber(a);
        input.addNumber(b);
        input.addNumber(c);
        input.addNumber(d);
        input.addNumber(e);
        return input.size;
    }

    public int end(int n) {
        if (n < 0 || n > FED || input.size < FED) {
            return BAD;
        }
        input.cutTo(input.size - FED + n);
        return input.size;
    }

    public int octets(int b, int times) {
        if (times < 1 || times > TIMES_MOST) {
            return BAD;
        }
        if (!input.hasRoom(times)) {
            return FULL;
        }
        for (int k = 0; k < times; k++) {
            input.add(b);
        }
        return input.size;
    }

    public int pack() {
        boolean fits = packer.packAll(input, level);
        input.cutTo(0);
        if (!fits) {
            out.cutTo(0);
            told.forget();
            return FULL;
        }
        return out.size;
    }

    public int open() {
        had.cutTo(0);
        had.addAll(input);
        input.cutTo(0);
        return opener.openRows() ? out.size : opener.brokenAnswer();
    }

    public int rule() {
        return opener.broken;
    }

    public int pass() {
        if (!input.hasRoom(out.size)) {
            return FULL;
        }
        input.addAll(out);
        return input.size;
    }

    public int spoil(int i, int mask) {
        if (!input.has(i) || mask < 1 || mask > 255) {
            return BAD;
        }
        input.set(i, input.at(i) ^ mask);
        return input.at(i);
    }

    public int drop(int n) {
        if (n < 0 || n > input.size) {
            return BAD;
        }
        input.dropFirst(n);
        return input.size;
    }

    public int out(int i) throws ArrayIndexOutOfBoundsException {
        if (!out.has(i)) {
            throw new ArrayIndexOutOfBoundsException("OUT has no such byte");
        }
        return out.at(i);
    }

    public int count(int what) {
        switch (what) {
            case 0: return input.size;
            case 1: return out.size;
            case 2: return had.size;
            case 3: return level;
            default: return BAD;
        }
    }

    public int block(int i, int what) {
        if (i == -1 && what == 0) {
            return told.went;
        }
        return told.fact(i, what);
    }

    public int sum(int i) {
        return told.sumOf(i);
    }

    public int choice(int k) {
        return told.last.hasChoice(k) ? told.last.chosen(k) : BAD;
    }

    public int length(int table, int number) {
        return told.last.hasLength(table, number) ? told.last.lengths[table][number] : BAD;
    }

    public int mark(int i) {
        return findMark(i);
    }

    public int alone(int i) {
        int at = findMark(i);
        if (at < 0) {
            return BAD;
        }
        return opener.openAlone(at) ? out.size : opener.brokenAnswer();
    }

    private int findMark(int i) {
        if (i < 0) {
            return BAD;
        }
        int left = i;
        long seen = 0;
        for (int k = 0; k < had.size; k++) {
            int octet = had.at(k);
            for (int bit = 7; bit >= 0; bit--) {
                seen = (seen << 1 | octet >> bit & 1) & LOW_48;
                int from = 8 * (k + 1) - bit - MARK_BITS;
                // THE MARK begins with 0s: ahead of 48 bits they would be taken from nowhere.
                if (from >= 0 && seen == BLOCK_MARK) {
                    if (left == 0) {
                        return from;
                    }
                    left--;
                }
            }
        }
        return BAD;
    }

    /** The sum of one more byte; all bits are turned only behind the last. */
    private static int stepSum(int sum, int octet) {
        int s = sum ^ octet << 24;
        for (int k = 0; k < 8; k++) {
            s = s < 0 ? s << 1 ^ 0x04C11DB7 : s << 1;
        }
        return s;
    }

    private static int joinSums(int joined, int sum) {
        return (joined << 1 | joined >>> 31) ^ sum;
    }

    /** Bytes one behind the other, up to a bound. */
    private static final class Row {
        private final byte[] bytes;
        private int size;

        Row(int most) {
            bytes = new byte[Math.max(0, most)];
        }

        boolean hasRoom(int more) {
            return more <= bytes.length - size;
        }

        boolean has(int i) {
            return i >= 0 && i < size;
        }

        int at(int i) {
            return has(i) ? bytes[i] & 255 : 0;
        }

        void set(int i, int value) {
            if (has(i)) {
                bytes[i] = (byte) value;
            }
        }

        void add(int value) {
            if (size < bytes.length) {
                bytes[size] = (byte) value;
                size++;
            }
        }

        void addNumber(int value) {
            for (int shift = 24; shift >= 0; shift -= 8) {
                add(value >> shift);
            }
        }

        void addAll(Row other) {
            int more = Math.min(other.size, bytes.length - size);
            System.arraycopy(other.bytes, 0, bytes, size, more);
            size += more;
        }

        void cutTo(int newSize) {
            size = Math.max(0, Math.min(size, newSize));
        }

        void dropFirst(int n) {
            int gone = Math.max(0, Math.min(size, n));
            System.arraycopy(bytes, gone, bytes, 0, size - gone);
            size -= gone;
        }
    }

    /** Writes bits into a row; what the row has no room for is only counted. */
    private static final class BitWriter {
        private final Row row;
        private int written;
        private int filling;

        BitWriter(Row row) {
            this.row = row;
        }

        void restart() {
            row.cutTo(0);
            written = 0;
            filling = 0;
        }

        void putBit(int bit) {
            filling = filling << 1 | bit & 1;
            written++;
            if (written % 8 == 0) {
                row.add(filling);
                filling = 0;
            }
        }

        void put(int width, long value) {
            for (int k = width - 1; k >= 0; k--) {
                putBit((int) (value >> k & 1));
            }
        }

        void putOnes(int times) {
            for (int k = 0; k < times; k++) {
                putBit(1);
            }
        }

        void fillByte() {
            for (int k = 0; k < 7 && written % 8 != 0; k++) {
                putBit(0);
            }
        }

        boolean allFitted() {
            return written <= 8 * row.size;
        }
    }

    /** Reads a row bit by bit, so that nothing is looked at before it is asked for. */
    private static final class BitReader {
        private final Row row;
        private int at;

        BitReader(Row row) {
            this.row = row;
        }

        boolean isAtEnd() {
            return at >= 8 * row.size;
        }

        // It stands at the end of the longest chain of calls, so it asks no other method.
        int next() {
            int i = at >> 3;
            if (i < 0 || i >= row.size) {
                return ENDED;
            }
            int bit = row.bytes[i] >> 7 - (at & 7) & 1;
            at++;
            return bit;
        }

        long number(int width) {
            long value = 0;
            for (int k = 0; k < width; k++) {
                int bit = next();
                if (bit == ENDED) {
                    return ENDED;
                }
                value = value << 1 | bit;
            }
            return value;
        }

        int bytesTouched() {
            return (at + 7) / 8;
        }
    }

    /** The CHOICES and the TABLES' LENGTHS of one BLOCK. */
    private static final class Coding {
        private int tables;
        private int choices;
        private int alphabet;
        // Each CHOICE takes a bit at least, so no input has more of them than bits.
        private final byte[] choice = new byte[BITS_MOST];
        private final int[][] lengths = new int[TABLES_MOST][ALPHABET_MOST];

        void forget() {
            tables = 0;
            choices = 0;
            alphabet = 0;
        }

        boolean hasChoice(int k) {
            return k >= 0 && k < choices && k < choice.length;
        }

        boolean hasLength(int table, int number) {
            return table >= 0 && table < tables && number >= 0 && number < alphabet;
        }

        int chosen(int k) {
            return hasChoice(k) ? choice[k] : 0;
        }

        void choose(int k, int table) {
            if (k >= 0 && k < choice.length && table >= 0 && table < TABLES_MOST) {
                choice[k] = (byte) table;
            }
        }
    }

    /** What is told of BLOCKS that went; a draft of the one that is at work stands beside it. */
    private static final class Told {
        private final int[] facts = new int[TOLD_MOST * FACTS];
        private final int[] sums = new int[TOLD_MOST];
        private final int[] draft = new int[FACTS];
        private int draftSum;
        // All BLOCKS that went, also those behind the ones of which facts are told.
        private int went;
        private Coding last = new Coding();
        private Coding spare = new Coding();

        void forget() {
            went = 0;
            last.forget();
        }

        boolean tells(int i) {
            return i >= 0 && i < went && i < TOLD_MOST;
        }

        int fact(int i, int what) {
            return tells(i) && what >= 0 && what < FACTS ? facts[i * FACTS + what] : BAD;
        }

        int sumOf(int i) {
            return tells(i) ? sums[i] : 0;
        }

        void note(int what, int value) {
            if (what >= 0 && what < FACTS) {
                draft[what] = value;
            }
        }

        void keepBlock() {
            if (went < TOLD_MOST) {
                System.arraycopy(draft, 0, facts, went * FACTS, FACTS);
                sums[went] = draftSum;
            }
            went++;
        }

        /** A BLOCK that fails later must not touch what is told of the last good one. */
        void keepCoding() {
            Coding before = last;
            last = spare;
            spare = before;
        }
    }

    /** A row of values of which the one that is asked for comes to the front. */
    private static final class Front {
        private final int[] row;
        private int size;

        Front(int most) {
            row = new int[Math.max(1, most)];
        }

        void clear() {
            size = 0;
        }

        void add(int value) {
            if (size < row.length) {
                row[size] = value;
                size++;
            }
        }

        void restart(int values) {
            clear();
            for (int v = 0; v < values; v++) {
                add(v);
            }
        }

        int first() {
            return row[0];
        }

        int takeAt(int place) {
            if (place < 0 || place >= size) {
                return 0;
            }
            int value = row[place];
            System.arraycopy(row, 0, row, 1, place);
            row[0] = value;
            return value;
        }

        int placeOf(int value) {
            for (int place = 0; place < size; place++) {
                if (row[place] == value) {
                    takeAt(place);
                    return place;
                }
            }
            return 0;
        }
    }

    /** Sorts the turns of a BLOCK, and turns a row of last bytes back. */
    private static final class Turns {
        private final int[] order = new int[ROOM_MOST];
        private final int[] rank = new int[ROOM_MOST];
        private final int[] waiting = new int[ROOM_MOST];
        private final int[] tally = new int[ROOM_MOST + 1];

        /** Ranks by 1, 2, 4 .. bytes: periodic blocks would make comparing byte by byte slow. */
        void sortTurns(byte[] block, int size) {
            for (int i = 0; i < size; i++) {
                rank[i] = block[i] & 255;
            }
            sortPlaces(size);
            for (int step = 1; step < size; step *= 2) {
                for (int i = 0; i < size; i++) {
                    waiting[i] = (order[i] - step + size) % size;
                }
                sortWaiting(size);
                rankAnew(size, step);
            }
            // Like turns must stand by their places, whatever order the doubling left them in.
            sortPlaces(size);
        }

        private void sortPlaces(int size) {
            for (int i = 0; i < size; i++) {
                waiting[i] = i;
            }
            sortWaiting(size);
        }

        private void sortWaiting(int size) {
            Arrays.fill(tally, 0);
            for (int i = 0; i < size; i++) {
                tally[rank[i] + 1]++;
            }
            for (int r = 1; r < tally.length; r++) {
                tally[r] += tally[r - 1];
            }
            for (int i = 0; i < size; i++) {
                int r = rank[waiting[i]];
                order[tally[r]] = waiting[i];
                tally[r]++;
            }
        }

        private void rankAnew(int size, int step) {
            int fresh = 0;
            for (int i = 0; i < size; i++) {
                if (i > 0 && differ(order[i - 1], order[i], size, step)) {
                    fresh++;
                }
                waiting[order[i]] = fresh;
            }
            System.arraycopy(waiting, 0, rank, 0, size);
        }

        private boolean differ(int a, int b, int size, int step) {
            return rank[a] != rank[b] || rank[(a + step) % size] != rank[(b + step) % size];
        }

        int lastByte(byte[] block, int size, int i) {
            int before = order[i] == 0 ? size - 1 : order[i] - 1;
            return block[before] & 255;
        }

        int origin(int size) {
            for (int i = 0; i < size; i++) {
                if (order[i] == 0) {
                    return i;
                }
            }
            return 0;
        }

        void turnBack(byte[] last, int size, int origin, byte[] block) {
            Arrays.fill(tally, 0);
            for (int i = 0; i < size; i++) {
                tally[(last[i] & 255) + 1]++;
            }
            for (int b = 1; b <= SIGNS_MOST; b++) {
                tally[b] += tally[b - 1];
            }
            for (int i = 0; i < size; i++) {
                int b = last[i] & 255;
                order[tally[b]] = i;
                tally[b]++;
            }
            int at = order[origin];
            for (int i = 0; i < size; i++) {
                block[i] = last[at];
                at = order[at];
            }
        }
    }

    /** The codes that the LENGTHS of one TABLE make. */
    private static final class Codes {
        private final int[] first = new int[LENGTH_MOST + 2];
        private final int[] have = new int[LENGTH_MOST + 2];
        private final int[] begin = new int[LENGTH_MOST + 2];
        private final int[] sorted = new int[ALPHABET_MOST];
        private final int[] code = new int[ALPHABET_MOST];

        void make(int[] lengths, int alphabet) {
            int filled = 0;
            int next = 0;
            for (int n = 1; n <= LENGTH_MOST; n++) {
                first[n] = next;
                begin[n] = filled;
                for (int v = 0; v < alphabet; v++) {
                    if (lengths[v] == n && filled < sorted.length) {
                        code[v] = first[n] + filled - begin[n];
                        sorted[filled] = v;
                        filled++;
                    }
                }
                have[n] = filled - begin[n];
                next = 2 * (first[n] + have[n]);
            }
        }

        int read(BitReader bits) {
            int value = 0;
            for (int n = 1; n <= LENGTH_MOST; n++) {
                int bit = bits.next();
                if (bit == ENDED) {
                    return ENDED;
                }
                value = 2 * value + bit;
                int over = value - first[n];
                if (over >= 0 && over < have[n]) {
                    return sorted[begin[n] + over];
                }
            }
            return NO_CODE;
        }
    }

    /** Finds the TABLES of a BLOCK that is packed, and the CHOICE of each fifty. */
    private static final class TableMaker {
        private static final int ROUNDS = 4;
        private static final int OTHERS_COST = 15;
        // Halving 31 times leaves no weight above 2, whatever it was.
        private static final int HALVINGS_MOST = 31;

        private final int[][] often = new int[TABLES_MOST][ALPHABET_MOST];
        private final int[] counts = new int[ALPHABET_MOST];
        private final int[] byWeight = new int[ALPHABET_MOST];
        private final int[] weight = new int[2 * ALPHABET_MOST];
        private final int[] parent = new int[2 * ALPHABET_MOST];
        private final int[] depth = new int[2 * ALPHABET_MOST];
        private int leafAt;
        private int joinedAt;
        private int made;

        void makeTables(int[] numbers, int size, Coding coding) {
            coding.tables = tablesFor(size);
            coding.choices = (size + FIFTY - 1) / FIFTY;
            setFirstCosts(numbers, size, coding);
            for (int round = 0; round < ROUNDS; round++) {
                chooseAll(numbers, size, coding);
                for (int t = 0; t < coding.tables; t++) {
                    makeLengths(often[t], coding.alphabet, coding.lengths[t]);
                }
            }
        }

        private static int tablesFor(int size) {
            if (size < 200) {
                return 2;
            }
            if (size < 600) {
                return 3;
            }
            return size < 1200 ? 4 : 5;
        }

        private void setFirstCosts(int[] numbers, int size, Coding coding) {
            Arrays.fill(counts, 0);
            for (int i = 0; i < size; i++) {
                counts[numbers[i]]++;
            }
            int last = coding.tables - 1;
            int left = size;
            int from = 0;
            for (int t = last; t >= 0; t--) {
                int wanted = left / (t + 1);
                int together = 0;
                int to = from;
                while (to < coding.alphabet && together < wanted) {
                    together += counts[to];
                    to++;
                }
                if (to - from > 1 && t != last && t != 0 && (last - t) % 2 == 1) {
                    to--;
                    together -= counts[to];
                }
                for (int v = 0; v < coding.alphabet; v++) {
                    coding.lengths[t][v] = v >= from && v < to ? 0 : OTHERS_COST;
                }
                left -= together;
                from = to;
            }
        }

        private void chooseAll(int[] numbers, int size, Coding coding) {
            for (int t = 0; t < coding.tables; t++) {
                Arrays.fill(often[t], 0);
            }
            for (int k = 0; k < coding.choices; k++) {
                int from = k * FIFTY;
                int to = Math.min(size, from + FIFTY);
                int best = cheapest(numbers, from, to, coding);
                coding.choose(k, best);
                for (int i = from; i < to; i++) {
                    often[best][numbers[i]]++;
                }
            }
        }

        private static int cheapest(int[] numbers, int from, int to, Coding coding) {
            int best = 0;
            int least = 0;
            for (int t = 0; t < coding.tables; t++) {
                int cost = 0;
                for (int i = from; i < to; i++) {
                    cost += coding.lengths[t][numbers[i]];
                }
                if (t == 0 || cost < least) {
                    least = cost;
                    best = t;
                }
            }
            return best;
        }

        private void makeLengths(int[] oftenHere, int alphabet, int[] lengths) {
            for (int v = 0; v < alphabet; v++) {
                weight[v] = Math.max(1, oftenHere[v]);
            }
            for (int k = 0; k < HALVINGS_MOST; k++) {
                joinAll(alphabet);
                if (setLengths(alphabet, lengths) <= PACKED_LENGTH_MOST) {
                    return;
                }
                for (int v = 0; v < alphabet; v++) {
                    weight[v] = weight[v] / 2 + 1;
                }
            }
        }

        private void joinAll(int alphabet) {
            sortByWeight(alphabet);
            leafAt = 0;
            joinedAt = alphabet;
            made = alphabet;
            int all = 2 * alphabet - 1;
            for (int joined = alphabet; joined < all; joined++) {
                int a = takeLeast(alphabet);
                int b = takeLeast(alphabet);
                weight[joined] = weight[a] + weight[b];
                parent[a] = joined;
                parent[b] = joined;
                made = joined + 1;
            }
        }

        private void sortByWeight(int alphabet) {
            for (int v = 0; v < alphabet; v++) {
                int place = v;
                while (place > 0 && weight[byWeight[place - 1]] > weight[v]) {
                    byWeight[place] = byWeight[place - 1];
                    place--;
                }
                byWeight[place] = v;
            }
        }

        /** Joined ones are made with rising weights, so the first of each kind is its least. */
        private int takeLeast(int alphabet) {
            boolean hasLeaf = leafAt < alphabet;
            boolean hasJoined = joinedAt < made;
            if (hasLeaf && (!hasJoined || weight[byWeight[leafAt]] <= weight[joinedAt])) {
                leafAt++;
                return byWeight[leafAt - 1];
            }
            if (hasJoined) {
                joinedAt++;
                return joinedAt - 1;
            }
            return 0;
        }

        private int setLengths(int alphabet, int[] lengths) {
            int root = 2 * alphabet - 2;
            int longest = 0;
            depth[root] = 0;
            for (int i = root - 1; i >= 0; i--) {
                depth[i] = depth[parent[i]] + 1;
                if (i < alphabet) {
                    lengths[i] = depth[i];
                    longest = Math.max(longest, depth[i]);
                }
            }
            return longest;
        }
    }

    /** Packs an input into OUT. */
    private static final class Packer {
        private static final int RUN_MOST = 255;

        private final Told told;
        private final Turns turns;
        private final BitWriter bits;
        private final Front front = new Front(SIGNS_MOST);
        private final Front tableFront = new Front(TABLES_MOST);
        private final TableMaker maker = new TableMaker();
        private final Codes[] codes = new Codes[TABLES_MOST];
        private final int[] isThere = new int[SIGNS_MOST];
        private final byte[] block = new byte[ROOM_MOST];
        private int size;
        private final int[] numbers = new int[ROOM_MOST + 1];
        private int numbersSize;

        Packer(Row out, Told told, Turns turns) {
            this.told = told;
            this.turns = turns;
            bits = new BitWriter(out);
            for (int t = 0; t < TABLES_MOST; t++) {
                codes[t] = new Codes();
            }
        }

        boolean packAll(Row input, int level) {
            told.forget();
            bits.restart();
            bits.put(8, 66);
            bits.put(8, 90);
            bits.put(8, 104);
            bits.put(8, 48 + level);
            int joined = 0;
            int from = 0;
            for (int k = 0; k < INPUT_MOST && from < input.size; k++) {
                int to = shortenRuns(input, from, level * ROOM_OF_ONE_LEVEL);
                packBlock(sumBetween(input, from, to), to - from);
                joined = joinSums(joined, told.draftSum);
                from = to;
            }
            bits.put(MARK_BITS, END_MARK);
            bits.put(32, joined & LOW_32);
            bits.fillByte();
            return bits.allFitted();
        }

        private static int sumBetween(Row input, int from, int to) {
            int sum = -1;
            for (int i = from; i < to; i++) {
                sum = stepSum(sum, input.at(i));
            }
            return ~sum;
        }

        /** Fills the BLOCK with runs from a place on: the place of the first run that has no room. */
        private int shortenRuns(Row input, int from, int room) {
            size = 0;
            int at = from;
            while (at < input.size) {
                int run = runFrom(input, at);
                int takes = run < LIKE ? run : LIKE + 1;
                if (size + takes > room || size + takes > block.length) {
                    return at;
                }
                for (int k = 0; k < run && k < LIKE; k++) {
                    block[size] = (byte) input.at(at);
                    size++;
                }
                if (run >= LIKE) {
                    block[size] = (byte) (run - LIKE);
                    size++;
                }
                at += run;
            }
            return at;
        }

        private static int runFrom(Row input, int at) {
            int run = 1;
            while (run < RUN_MOST && at + run < input.size && input.at(at + run) == input.at(at)) {
                run++;
            }
            return run;
        }

        private void packBlock(int sum, int plainSize) {
            turns.sortTurns(block, size);
            findSigns();
            makeNumbers();
            Coding coding = told.spare;
            coding.alphabet = front.size + 2;
            maker.makeTables(numbers, numbersSize, coding);
            noteFacts(sum, plainSize, coding);
            writeHead(sum);
            writeMap();
            writeChoices(coding);
            writeLengths(coding);
            writeCodes(coding);
            told.keepBlock();
            told.keepCoding();
        }

        private void noteFacts(int sum, int plainSize, Coding coding) {
            told.draftSum = sum;
            told.note(FACT_BIT, bits.written);
            told.note(FACT_BYTES, plainSize);
            told.note(FACT_SHORTENED, size);
            told.note(FACT_ORIGIN, turns.origin(size));
            told.note(FACT_SIGNS, front.size);
            told.note(FACT_TABLES, coding.tables);
            told.note(FACT_CHOICES, coding.choices);
            told.note(FACT_ROW, 0);
            told.note(FACT_NUMBERS, numbersSize);
        }

        private void findSigns() {
            Arrays.fill(isThere, 0);
            for (int i = 0; i < size; i++) {
                isThere[block[i] & 255] = 1;
            }
            front.clear();
            for (int b = 0; b < SIGNS_MOST; b++) {
                if (isThere[b] == 1) {
                    front.add(b);
                }
            }
        }

        private void makeNumbers() {
            numbersSize = 0;
            int zeros = 0;
            for (int i = 0; i < size; i++) {
                int place = front.placeOf(turns.lastByte(block, size, i));
                if (place == 0) {
                    zeros++;
                } else {
                    addDigits(zeros);
                    zeros = 0;
                    addNumber(place + 1);
                }
            }
            addDigits(zeros);
            addNumber(front.size + 1);
        }

        private void addDigits(int zeros) {
            for (int left = zeros; left > 0; left = (left - 1) / 2) {
                addNumber((left - 1) % 2);
            }
        }

        private void addNumber(int number) {
            if (numbersSize < numbers.length) {
                numbers[numbersSize] = number;
                numbersSize++;
            }
        }

        private void writeHead(int sum) {
            bits.put(MARK_BITS, BLOCK_MARK);
            bits.put(32, sum & LOW_32);
            bits.putBit(0);
            bits.put(24, turns.origin(size));
        }

        private void writeMap() {
            for (int from = 0; from < SIGNS_MOST; from += 16) {
                bits.putBit(sixteenFrom(from) == 0 ? 0 : 1);
            }
            for (int from = 0; from < SIGNS_MOST; from += 16) {
                int sixteen = sixteenFrom(from);
                if (sixteen != 0) {
                    bits.put(16, sixteen);
                }
            }
        }

        private int sixteenFrom(int from) {
            int sixteen = 0;
            for (int b = from; b < from + 16 && b < SIGNS_MOST; b++) {
                sixteen = sixteen << 1 | isThere[b];
            }
            return sixteen;
        }

        private void writeChoices(Coding coding) {
            bits.put(3, coding.tables);
            bits.put(15, coding.choices);
            tableFront.restart(coding.tables);
            for (int k = 0; k < coding.choices; k++) {
                bits.putOnes(tableFront.placeOf(coding.chosen(k)));
                bits.putBit(0);
            }
        }

        private void writeLengths(Coding coding) {
            for (int t = 0; t < coding.tables; t++) {
                int one = coding.lengths[t][0];
                bits.put(5, one);
                for (int v = 0; v < coding.alphabet; v++) {
                    int due = coding.lengths[t][v];
                    for (int k = one; k < due; k++) {
                        bits.put(2, 2);
                    }
                    for (int k = one; k > due; k--) {
                        bits.put(2, 3);
                    }
                    bits.putBit(0);
                    one = due;
                }
            }
        }

        private void writeCodes(Coding coding) {
            for (int t = 0; t < coding.tables; t++) {
                codes[t].make(coding.lengths[t], coding.alphabet);
            }
            for (int i = 0; i < numbersSize; i++) {
                int table = coding.chosen(i / FIFTY);
                bits.put(coding.lengths[table][numbers[i]], codes[table].code[numbers[i]]);
            }
        }
    }

    /** Opens rows, or a BLOCK alone, and tells the first RULE that is broken. */
    private static final class Opener {
        private final Row out;
        private final Told told;
        private final Turns turns;
        private final BitReader bits;
        private final Front front = new Front(SIGNS_MOST);
        private final Front tableFront = new Front(TABLES_MOST);
        private final Codes[] codes = new Codes[TABLES_MOST];
        private final byte[] last = new byte[ROOM_MOST];
        private final byte[] block = new byte[ROOM_MOST];
        private int size;
        private int origin;
        private int level;
        private int broken;

        Opener(Row had, Row out, Told told, Turns turns) {
            this.out = out;
            this.told = told;
            this.turns = turns;
            bits = new BitReader(had);
            for (int t = 0; t < TABLES_MOST; t++) {
                codes[t] = new Codes();
            }
        }

        int brokenAnswer() {
            return -10 - bits.bytesTouched();
        }

        boolean openRows() {
            restart(0);
            told.forget();
            for (int row = 0; row <= INPUT_MOST; row++) {
                if (!openRow(row)) {
                    return false;
                }
                if (bits.isAtEnd()) {
                    return true;
                }
            }
            return true;
        }

        /** The bytes read are told from the first one on, as open() tells them: marks are found from there. */
        boolean openAlone(int at) {
            restart(at + MARK_BITS);
            if (!openBlock(ROOM_MOST)) {
                return false;
            }
            told.keepCoding();
            return true;
        }

        private void restart(int at) {
            bits.at = at;
            broken = 0;
            out.cutTo(0);
        }

        private boolean breaks(int rule) {
            broken = rule;
            return false;
        }

        private boolean openRow(int row) {
            if (!readRowHead()) {
                return false;
            }
            int joined = 0;
            for (int k = 0; k < BITS_MOST; k++) {
                int at = bits.at;
                long mark = bits.number(MARK_BITS);
                if (mark == ENDED) {
                    return breaks(1);
                }
                if (mark == END_MARK) {
                    return readRowEnd(joined);
                }
                if (mark != BLOCK_MARK) {
                    return breaks(3);
                }
                told.note(FACT_BIT, at);
                told.note(FACT_ROW, row);
                if (!openBlock(level * ROOM_OF_ONE_LEVEL)) {
                    return false;
                }
                joined = joinSums(joined, told.draftSum);
                told.keepBlock();
                told.keepCoding();
            }
            return true;
        }

        private boolean readRowHead() {
            for (int k = 0; k < 4; k++) {
                int octet = (int) bits.number(8);
                if (octet == ENDED) {
                    return breaks(1);
                }
                if (!fitsHead(k, octet)) {
                    return breaks(2);
                }
                level = octet - 48;
            }
            return true;
        }

        private static boolean fitsHead(int k, int octet) {
            switch (k) {
                case 0: return octet == 66;
                case 1: return octet == 90;
                case 2: return octet == 104;
                default: return octet > 48 && octet <= 48 + LEVEL_MOST;
            }
        }

        private boolean readRowEnd(int joined) {
            long sum = bits.number(32);
            if (sum == ENDED) {
                return breaks(1);
            }
            if (sum != (joined & LOW_32)) {
                return breaks(13);
            }
            for (int k = 0; k < 7 && bits.at % 8 != 0; k++) {
                if (bits.next() != 0) {
                    return breaks(14);
                }
            }
            return true;
        }

        private boolean openBlock(int room) {
            Coding coding = told.spare;
            return readHead() && readMap() && readChoices(coding) && readLengths(coding)
                && readNumbers(coding, room) && turnBlockBack() && writeOut();
        }

        private boolean readHead() {
            long sum = bits.number(32);
            if (sum == ENDED) {
                return breaks(1);
            }
            told.draftSum = (int) sum;
            int bit = bits.next();
            if (bit == ENDED) {
                return breaks(1);
            }
            if (bit != 0) {
                return breaks(4);
            }
            origin = (int) bits.number(24);
            if (origin == ENDED) {
                return breaks(1);
            }
            told.note(FACT_ORIGIN, origin);
            return true;
        }

        private boolean readMap() {
            int sixteens = (int) bits.number(16);
            if (sixteens == ENDED) {
                return breaks(1);
            }
            front.clear();
            for (int k = 0; k < 16; k++) {
                if ((sixteens >> 15 - k & 1) == 0) {
                    continue;
                }
                int sixteen = (int) bits.number(16);
                if (sixteen == ENDED) {
                    return breaks(1);
                }
                for (int i = 0; i < 16; i++) {
                    if ((sixteen >> 15 - i & 1) == 1) {
                        front.add(16 * k + i);
                    }
                }
            }
            told.note(FACT_SIGNS, front.size);
            return front.size > 0 || breaks(5);
        }

        private boolean readChoices(Coding coding) {
            coding.alphabet = front.size + 2;
            coding.tables = 0;
            int tables = (int) bits.number(3);
            if (tables == ENDED) {
                return breaks(1);
            }
            if (tables < TABLES_LEAST || tables > TABLES_MOST) {
                return breaks(6);
            }
            int choices = (int) bits.number(15);
            if (choices == ENDED) {
                return breaks(1);
            }
            if (choices == 0) {
                return breaks(6);
            }
            coding.tables = tables;
            coding.choices = choices;
            told.note(FACT_TABLES, tables);
            told.note(FACT_CHOICES, choices);
            tableFront.restart(tables);
            for (int k = 0; k < choices; k++) {
                if (!readChoice(coding, k)) {
                    return false;
                }
            }
            return true;
        }

        private boolean readChoice(Coding coding, int k) {
            for (int place = 0; place < coding.tables; place++) {
                int bit = bits.next();
                if (bit == ENDED) {
                    return breaks(1);
                }
                if (bit == 0) {
                    coding.choose(k, tableFront.takeAt(place));
                    return true;
                }
            }
            return breaks(6);
        }

        private boolean readLengths(Coding coding) {
            for (int t = 0; t < coding.tables; t++) {
                int one = (int) bits.number(5);
                if (one == ENDED) {
                    return breaks(1);
                }
                if (!isLength(one)) {
                    return breaks(7);
                }
                for (int v = 0; v < coding.alphabet; v++) {
                    one = changedLength(one);
                    if (one == ENDED) {
                        return false;
                    }
                    coding.lengths[t][v] = one;
                }
                codes[t].make(coding.lengths[t], coding.alphabet);
            }
            return true;
        }

        /** The LENGTH behind its changes; ENDED if a RULE was broken. */
        private int changedLength(int before) {
            int one = before;
            for (int k = 0; k < BITS_MOST; k++) {
                int goesOn = bits.next();
                if (goesOn == 0) {
                    return one;
                }
                int less = goesOn == ENDED ? ENDED : bits.next();
                if (less == ENDED) {
                    breaks(1);
                    return ENDED;
                }
                one += less == 0 ? 1 : -1;
                if (!isLength(one)) {
                    breaks(7);
                    return ENDED;
                }
            }
            return one;
        }

        private static boolean isLength(int one) {
            return one >= 1 && one <= LENGTH_MOST;
        }

        private boolean readNumbers(Coding coding, int room) {
            size = 0;
            int run = 0;
            int digitIsWorth = 1;
            for (int k = 0; k < BITS_MOST; k++) {
                if (k / FIFTY >= coding.choices) {
                    return breaks(8);
                }
                int number = codes[coding.chosen(k / FIFTY)].read(bits);
                if (number < 0) {
                    return breaks(number == ENDED ? 1 : 8);
                }
                if (number <= 1) {
                    run += (number + 1) * digitIsWorth;
                    digitIsWorth *= 2;
                    // Digits count when they are read, though the run is put when it ends.
                    if (run > room - size) {
                        return breaks(8);
                    }
                    continue;
                }
                if (!addLast(front.first(), run, room)) {
                    return breaks(8);
                }
                run = 0;
                digitIsWorth = 1;
                if (number == coding.alphabet - 1) {
                    told.note(FACT_NUMBERS, k + 1);
                    return true;
                }
                if (!addLast(front.takeAt(number - 1), 1, room)) {
                    return breaks(8);
                }
            }
            return breaks(1);
        }

        private boolean addLast(int octet, int times, int room) {
            if (times > room - size || times > last.length - size) {
                return false;
            }
            for (int k = 0; k < times; k++) {
                last[size] = (byte) octet;
                size++;
            }
            return true;
        }

        private boolean turnBlockBack() {
            told.note(FACT_SHORTENED, size);
            if (origin >= size) {
                return breaks(9);
            }
            turns.turnBack(last, size, origin, block);
            return true;
        }

        private boolean writeOut() {
            int plainSize = plainSize();
            if (plainSize < 0) {
                return breaks(10);
            }
            int before = out.size;
            if (before + plainSize > OPENED_MOST) {
                return breaks(11);
            }
            told.note(FACT_BYTES, plainSize);
            if (lengthenRuns() != told.draftSum) {
                out.cutTo(before);
                return breaks(12);
            }
            return true;
        }

        /** How many bytes the BLOCK becomes; - 1 if the number behind four like ones is missing. */
        private int plainSize() {
            int plain = 0;
            int like = 0;
            for (int i = 0; i < size; i++) {
                if (like == LIKE) {
                    plain += block[i] & 255;
                    like = 0;
                } else {
                    like = like > 0 && block[i] == block[i - 1] ? like + 1 : 1;
                    plain++;
                }
            }
            return like == LIKE ? -1 : plain;
        }

        /** Writes the BLOCK's bytes behind OUT: their SUM. */
        private int lengthenRuns() {
            int sum = -1;
            int like = 0;
            for (int i = 0; i < size; i++) {
                int octet = block[i] & 255;
                int times = 1;
                if (like == LIKE) {
                    times = octet;
                    octet = block[i - 1] & 255;
                    like = 0;
                } else {
                    like = like > 0 && block[i] == block[i - 1] ? like + 1 : 1;
                }
                for (int k = 0; k < times; k++) {
                    out.add(octet);
                    sum = stepSum(sum, octet);
                }
            }
            return ~sum;
        }
    }
}
